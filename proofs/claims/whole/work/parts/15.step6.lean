/-! calls -/
section ST6
variable {base : Nat} {adC adV : Nat → Nat} {cI : ClassId} {D : va_G} {ce : Cx} {l : Launch} {lim : Nat × Nat} {y d : Nat} {p : Program} {e : Env} {R : Room} {s : State} {m : MethodId} {args : Array Value} {below : List Frame} {meth : Method} {c : Code} {Z : State → Prop} {n0 s0 : Nat} {pc : Nat} {L S : List Vx} {M : Mx} {k : Kx} {K : Nat → Kx}
theorem pops_spec : ∀ (n : Nat) (S acc a S' : List Vx), pops n S acc = some (a, S') → ∃ b, a = b ++ acc ∧ b.length = n ∧ S = b.reverse ++ S'
  | 0, S, acc, a, S', h => by
    simp only [pops, Option.some.injEq, Prod.mk.injEq] at h
    exact ⟨[], by simp [h.1], rfl, by simp [h.2]⟩
  | n + 1, [], acc, a, S', h => by simp [pops] at h
  | n + 1, v :: S, acc, a, S', h => by
    obtain ⟨b, h1, h2, h3⟩ := pops_spec n S (v :: acc) a S' h
    exact ⟨b ++ [v], by simp [h1], by simp [h2], by simp [h3]⟩
theorem bl_Pc {a : List Vx} : FrameBlind (va_Pc (a.map (cv base adC)) fun U => RS base adC cI D M U.heap ∧ va_K D vwCl [(cI, .int)] U ∧ KF base adC adV ce U U.heap) := fun _ U g mk q => ⟨q.1, q.2.1, va_K.moved (u := U) (U := U.calling g mk _) (Vm.Alike.refl U.vm) q.2.2.1, KF.moved (s := U) (U := U.calling g mk _) (State.WarmedH.refl U) q.2.2.2⟩
theorem after_run {H : Heap} {locs : List Loc} {cells slots y' : Nat} {ls : Array Slot} {Q : Qx} {st0 : List Value} {rest : List Vx} (hr : va_Run p l e R s m args below meth c H locs cells slots (bu y').1 (bu y').2 (F0 m pc ls st0) (rest.map (cv base adC)) (fun (U : State) (oc : Outcome) (t : State) => ∃ (r : Option Vx) (M' : Mx), oc = .returned (r.map (cv base adC)) ∧ Q r M' ∧ wfM M' ∧ (∀ v, r = some v → wfV v) ∧ M'.1 = M.1 + (bu y').1 ∧ M'.2.1 = M.2.1 + (bu y').2 ∧ RS base adC cI D M' t.heap ∧ va_F (oA base) U t) (oA base))
    (hS : va_S (oA base) s.heap H locs) (h1 : n0 + cells = M.1) (h2 : s0 + slots = M.2.1) (g1 : M.1 + (bu y').1 ≤ lim.1) (g2 : M.2.1 + (bu y').2 ≤ lim.2) (hL : LR base adC L ls (mL y))
    (hk : ∀ r M', wfM M' → (∀ v, r = some v → wfV v) → Q r M' → AtW base adC cI D l lim y p e R s m args below meth c Z n0 s0 (pc + 3) L (r.toList ++ rest) M') : W p l e R s m args below meth c H locs cells slots Z (F0 m pc ls st0) := by
  intro T hT X
  obtain ⟨v, st₀, t, T', Lo, h0, X', hLo, e1, e2, ⟨r, M', hv, hQ, w1, w2, c1, c2, hR', hF⟩, stp⟩ := hr T hT X
  have hv : v = r.map (cv base adC) := Outcome.returned.inj hv
  subst hv
  obtain ⟨hz, hkk⟩ := hF
  rw [h0] at hz hkk
  have hS' : va_S (oA base) s.heap T'.heap (locs ++ Lo) := ⟨Nat.le_trans hS.1 (by rw [e1]; exact hz), fun q a b => by rw [e1, hkk q (Nat.lt_of_lt_of_le a hS.1) b]; exact hS.2.1 q a b, fun q hq => by
    rcases List.mem_append.mp hq with h | h
    · exact hS.2.2 q h
    · exact hLo q h⟩
  obtain ⟨t2, a1, b1⟩ := hk r M' w1 w2 hQ T'.heap (locs ++ Lo) (cells + (bu y').1) (slots + (bu y').2) ls (by rw [e1]; exact hR') hS' (by omega) (by omega) (by omega) (by omega) hL T' rfl X'
  refine ⟨t2, stp t2 ?_, b1⟩
  have e3 : (r.map (cv base adC)).toList ++ rest.map (cv base adC) = (r.toList ++ rest).map (cv base adC) := by cases r <;> simp
  show Steps p.tables e below (T'.setTop { F0 m pc ls st0 with pc := pc + 3, stack := (r.map (cv base adC)).toList ++ rest.map (cv base adC) }) t2
  rw [e3]
  exact a1
set_option maxRecDepth 20000 in
theorem cb_of {y' d' n idx : Nat} (hdd : d = d' + 1) (hm : mOK y') (hts : ∀ w ∈ gW, w.before args s = true) (hfr : d + 4 ≤ R.frames) (hlo : 64 * (d + 4) ≤ R.locals) (hp : mPar y' n) (hl : .methodLink (mN y).cls idx (mN y') ∈ gW) :
    CallB R s args (mN y).cls idx (mN y') (mC y') (mL y') (mR y') (.code (mN y') (mC y') (mL y') (mR y') :: gW) { frames := d' + 4, cells := (bu y').1, slots := (bu y').2, locals := 64 * (d' + 4) } (bu y').1 (bu y').2 n := by
  obtain ⟨m1, m2, m3, m4, m5⟩ := hm
  have hq1 : d' + 4 + 1 ≤ R.frames := by omega
  have hq2 : 8 + (mL y' + 11) + 64 * (d' + 4) ≤ R.locals := (show ∀ k, k ≤ 40 → 8 + (k + 11) + 64 * (d' + 4) ≤ R.locals by clear m2; intro k hk; omega) _ m2
  refine ⟨rfl, rfl, hq1, hq2, pay_in hts (fun w hw => ?_), List.mem_cons_self, hts _ m1, hts _ m3, m4, fun sig hs => ?_, hts _ hl⟩
  · rcases List.mem_cons.mp hw with rfl | hw
    · exact ⟨m1, good_of_word (List.mem_filter.mp m1).2⟩
    · exact ⟨hw, good_of_word (List.mem_filter.mp hw).2⟩
  · unfold mPar at hp
    rw [hs] at hp
    exact (Option.some.inj hp).symm
set_option maxRecDepth 20000 in
theorem cn_of {y' d' n idx : Nat} {host : String} (hdd : d = d' + 1) (hm : mOK y') (hts : ∀ w ∈ gW, w.before args s = true) (hfr : d + 4 ≤ R.frames) (hlo : 64 * (d + 4) ≤ R.locals) (hp : mPar y' n) (hl : va_Nw (.methodLinkNest (mN y).cls idx (mN y') host) s) :
    va_CN R s args (mN y).cls idx (mN y') host (mC y') (mL y') (mR y') (.code (mN y') (mC y') (mL y') (mR y') :: gW) { frames := d' + 4, cells := (bu y').1, slots := (bu y').2, locals := 64 * (d' + 4) } (bu y').1 (bu y').2 n := by
  obtain ⟨m1, m2, m3, m4, m5⟩ := hm
  have hq1 : d' + 4 + 1 ≤ R.frames := by omega
  have hq2 : 8 + (mL y' + 11) + 64 * (d' + 4) ≤ R.locals := (show ∀ k, k ≤ 40 → 8 + (k + 11) + 64 * (d' + 4) ≤ R.locals by clear m2; intro k hk; omega) _ m2
  refine va_cnB n hts (fun w hw => ?_) rfl rfl rfl hl (hts _ m3) ⟨m4.1, m4.2, hp⟩ ⟨hq1, hq2⟩
  rcases List.mem_cons.mp hw with rfl | hw
  · exact ⟨m1, good_of_word (List.mem_filter.mp m1).2⟩
  · exact ⟨hw, good_of_word (List.mem_filter.mp hw).2⟩
theorem s_callV {idx y' n d' : Nat} (hlnk : mOK y' ∧ (∃ k, n = k + 1 ∧ mPar y' k) ∧ (∃ ci q, clsN y' = some ci ∧ vwCl[ci]? = some q ∧ q.1 = (mN y').cls) ∧ .methodLink (mN y).cls idx (mN y') ∈ gW ∧ .selects (mN y').cls (mN y') (mN y') ∈ gW ∧ .instanceMethod (mN y') ∈ gW) (hd : decode (mC y) pc = .ok (.invokevirtual idx, 3)) (hC : CX base adC adV cI D ce y d p R s m args meth c) (hlim : lim = (n0 + R.cells, s0 + R.slots)) (hdd : d = d' + 1) (hw : wf3 L S M) (h : cV (pops n S []) fun q a S => szS S ≤ 8 ∧ M.2.2.1 q = (clsN y').map .inr ∧ (M.1 + (bu y').1 ≤ lim.1 ∧ M.2.1 + (bu y').2 ≤ lim.2) ∧ Cq base adC adV cI D ce l d' y' (.inr (.inr (.inl q)) :: a) M (fun r M => k L (r.toList ++ S) M)) (hk : ∀ L' S' M', wf3 L' S' M' → k L' S' M' → AtW base adC cI D l lim y p e R s m args below meth c Z n0 s0 (pc + 3) L' S' M') : AtW base adC cI D l lim y p e R s m args below meth c Z n0 s0 pc L S M := by
  intro H locs cells slots ls hR hS h1 h2 h3 h4 hL
  obtain ⟨hx, hb, hml, hown, hts, hKK, hKF, hnm, hrt, hlk0, hfr, hlo, hbs⟩ := hC
  rcases hp : pops n S [] with _ | ⟨a, S'⟩ <;> rw [hp] at h <;> try exact h.elim
  obtain ⟨b, hb1, hb2, hb3⟩ := pops_spec n S [] a S' hp
  rw [List.append_nil] at hb1
  subst hb1
  rcases a with _ | ⟨v | v | q | v, a⟩ <;> try exact h.elim
  obtain ⟨hsz, hcl, ⟨g1, g2⟩, hq⟩ := h
  subst hb3
  have hwS : ∀ v ∈ S', wfV v := fun v hv => hw.2.2 v (List.mem_append_right _ hv)
  have hwa : ∀ v ∈ (vr q :: a), wfV v := fun v hv => hw.2.2 v (List.mem_append_left _ (List.mem_reverse.mpr hv))
  have hM := hq hw.1 hwa
  obtain ⟨hm, ⟨n', hn', hpar⟩, ⟨ci, qc, hci, hqc, hqn⟩, hl1, hl2, hl3⟩ := hlnk
  rw [hci] at hcl
  have hcl : M.2.2.1 q = some (.inr ci) := hcl
  have hq0 : q < M.1 := hw.1.1 q (by rw [hcl]; simp)
  have hat : (wsO base adC cI M)[q]? = some (base + q, .inr (ci, fsOf base adC M q ci)) := by rw [wsO_at hq0, ceOf_o hcl]
  have hrv := va_recv hKK hR.1 hqc hat
  rw [hqn] at hrv
  rw [hlim] at g1 g2
  simp only at g1 g2
  have hcw := cb_of (y := y) hdd hm hts hfr hlo hpar hl1
  refine after_run (va_runV (C := (mN y').cls) (b := base + q) (As := a.map (cv base adC)) (rest := S'.map (cv base adC)) ⟨hx, hb, hml, hown, hts⟩ hM ⟨hcw, hts _ hl3, hts _ hl2⟩ ⟨bl_Pc, hrv, fun U hU hW => ⟨rfl, by rw [hU]; exact hR, va_K.moved hW.alike hKK, KF.kept (KF.moved hW hKF) (fun x hx1 hx2 => by rw [hU]; exact hS.2.1 x hx1 hx2)⟩⟩ rfl (by simp at hb2; simp; omega) (by exact hL.2.1) ?_ (lv_room (by rw [szS_cat]; exact hsz)) hd ⟨by omega, by omega⟩) hS h1 h2 (by rw [hlim]; exact g1) (by rw [hlim]; exact g2) hL
    (fun r M' w1 w2 hQ => hk _ _ _ ⟨w1, hw.2.1, fun v hv => by
      rcases List.mem_append.mp hv with hv | hv
      · exact w2 v (Option.mem_toList.mp hv)
      · exact hwS v hv⟩ hQ)
  show List.map (cv base adC) _ = _
  simp [cv]
theorem s_callS {idx y' n d' : Nat} (hlnk : mOK y' ∧ mPar y' n ∧ lkM (mN y).cls idx y' ∧ .static (mN y') ∈ gW) (hd : decode (mC y) pc = .ok (.invokestatic idx, 3)) (hC : CX base adC adV cI D ce y d p R s m args meth c) (hlim : lim = (n0 + R.cells, s0 + R.slots)) (hdd : d = d' + 1) (hw : wf3 L S M) (h : cS (pops n S []) fun a S => szS S ≤ 8 ∧ (M.1 + (bu y').1 ≤ lim.1 ∧ M.2.1 + (bu y').2 ≤ lim.2) ∧ Cq base adC adV cI D ce l d' y' a M (fun r M => k L (r.toList ++ S) M)) (hk : ∀ L' S' M', wf3 L' S' M' → k L' S' M' → AtW base adC cI D l lim y p e R s m args below meth c Z n0 s0 (pc + 3) L' S' M') : AtW base adC cI D l lim y p e R s m args below meth c Z n0 s0 pc L S M := by
  intro H locs cells slots ls hR hS h1 h2 h3 h4 hL
  obtain ⟨hx, hb, hml, hown, hts, hKK, hKF, hnm, hrt, hlk0, hfr, hlo, hbs⟩ := hC
  rcases hp : pops n S [] with _ | ⟨a, S'⟩ <;> rw [hp] at h <;> try exact h.elim
  obtain ⟨b, hb1, hb2, hb3⟩ := pops_spec n S [] a S' hp
  rw [List.append_nil] at hb1
  subst hb1
  obtain ⟨hsz, ⟨g1, g2⟩, hq⟩ := h
  subst hb3
  have hwS : ∀ v ∈ S', wfV v := fun v hv => hw.2.2 v (List.mem_append_right _ hv)
  have hwa : ∀ v ∈ a, wfV v := fun v hv => hw.2.2 v (List.mem_append_left _ (List.mem_reverse.mpr hv))
  have hM := hq hw.1 hwa
  obtain ⟨hm, hpar, hlm, hl3⟩ := hlnk
  rw [hlim] at g1 g2
  simp only at g1 g2
  rcases hlm with hl1 | ⟨host, hl1⟩
  · have hcw := cb_of (y := y) hdd hm hts hfr hlo hpar hl1
    refine after_run (va_runS (As := a.map (cv base adC)) (rest := S'.map (cv base adC)) ⟨hx, hb, hml, hown, hts⟩ hM ⟨hcw, hts _ hl3⟩ ⟨bl_Pc, fun U hU hW => ⟨rfl, by rw [hU]; exact hR, va_K.moved hW.alike hKK, KF.kept (KF.moved hW hKF) (fun x hx1 hx2 => by rw [hU]; exact hS.2.1 x hx1 hx2)⟩⟩ rfl (by simp; omega) (by exact hL.2.1) ?_ (lv_room (by rw [szS_cat]; exact hsz)) hd ⟨by omega, by omega⟩) hS h1 h2 (by rw [hlim]; exact g1) (by rw [hlim]; exact g2) hL
      (fun r M' w1 w2 hQ => hk _ _ _ ⟨w1, hw.2.1, fun v hv => by
      rcases List.mem_append.mp hv with hv | hv
      · exact w2 v (Option.mem_toList.mp hv)
      · exact hwS v hv⟩ hQ)
    show List.map (cv base adC) _ = _
    simp
  · have hcw := cn_of (y := y) hdd hm hts hfr hlo hpar (hKF.2.2.1 _ hl1)
    refine after_run (va_runSN (As := a.map (cv base adC)) (rest := S'.map (cv base adC)) ⟨hx, hb, hml, hown, hts⟩ hM ⟨hcw, hts _ hl3, trivial⟩ ⟨bl_Pc, fun U hU hW => ⟨rfl, by rw [hU]; exact hR, va_K.moved hW.alike hKK, KF.kept (KF.moved hW hKF) (fun x hx1 hx2 => by rw [hU]; exact hS.2.1 x hx1 hx2)⟩⟩ rfl (by simp; omega) (by exact hL.2.1) ?_ (lv_room (by rw [szS_cat]; exact hsz)) hd ⟨by omega, by omega⟩) hS h1 h2 (by rw [hlim]; exact g1) (by rw [hlim]; exact g2) hL
      (fun r M' w1 w2 hQ => hk _ _ _ ⟨w1, hw.2.1, fun v hv => by
      rcases List.mem_append.mp hv with hv | hv
      · exact w2 v (Option.mem_toList.mp hv)
      · exact hwS v hv⟩ hQ)
    show List.map (cv base adC) _ = _
    simp
theorem s_callI {idx y' n d' : Nat} (hlnk : mOK y' ∧ (∃ k, n = k + 1 ∧ mPar y' k) ∧ lkM (mN y).cls idx y' ∧ .instanceMethod (mN y') ∈ gW ∧ (mN y').name = "<init>" ∧ mR y' = none) (hd : decode (mC y) pc = .ok (.invokespecial idx, 3)) (hC : CX base adC adV cI D ce y d p R s m args meth c) (hlim : lim = (n0 + R.cells, s0 + R.slots)) (hdd : d = d' + 1) (hw : wf3 L S M) (h : cV (pops n S []) fun q a S => szS S ≤ 8 ∧ (M.1 + (bu y').1 ≤ lim.1 ∧ M.2.1 + (bu y').2 ≤ lim.2) ∧ Cq base adC adV cI D ce l d' y' (.inr (.inr (.inl q)) :: a) M (fun r M => k L (r.toList ++ S) M)) (hk : ∀ L' S' M', wf3 L' S' M' → k L' S' M' → AtW base adC cI D l lim y p e R s m args below meth c Z n0 s0 (pc + 3) L' S' M') : AtW base adC cI D l lim y p e R s m args below meth c Z n0 s0 pc L S M := by
  intro H locs cells slots ls hR hS h1 h2 h3 h4 hL
  obtain ⟨hx, hb, hml, hown, hts, hKK, hKF, hnm, hrt, hlk0, hfr, hlo, hbs⟩ := hC
  rcases hp : pops n S [] with _ | ⟨a, S'⟩ <;> rw [hp] at h <;> try exact h.elim
  obtain ⟨b, hb1, hb2, hb3⟩ := pops_spec n S [] a S' hp
  rw [List.append_nil] at hb1
  subst hb1
  rcases a with _ | ⟨v | v | q | v, a'⟩ <;> try exact h.elim
  obtain ⟨hsz, ⟨g1, g2⟩, hq⟩ := h
  subst hb3
  have hwS : ∀ v ∈ S', wfV v := fun v hv => hw.2.2 v (List.mem_append_right _ hv)
  have hwa : ∀ v ∈ (vr q :: a'), wfV v := fun v hv => hw.2.2 v (List.mem_append_left _ (List.mem_reverse.mpr hv))
  obtain ⟨hm, ⟨n', hn', hpar⟩, hlm, hl3, hin, hvo⟩ := hlnk
  rw [hlim] at g1 g2
  simp only at g1 g2
  have hM := hq hw.1 hwa
  rcases hlm with hl1 | ⟨host, hl1⟩
  · have hcw := cb_of (y := y) hdd hm hts hfr hlo hpar hl1
    rw [hvo] at hcw hM
    refine after_run (va_runI (b := base + q) (As := a'.map (cv base adC)) (rest := S'.map (cv base adC)) ⟨hx, hb, hml, hown, hts⟩ hM ⟨hcw, hin, hts _ hl3⟩ ⟨bl_Pc, fun U hU hW => ⟨rfl, by rw [hU]; exact hR, va_K.moved hW.alike hKK, KF.kept (KF.moved hW hKF) (fun x hx1 hx2 => by rw [hU]; exact hS.2.1 x hx1 hx2)⟩⟩ rfl (by simp at hb2; simp; omega) (by exact hL.2.1) ?_ (lv_room (by rw [szS_cat]; exact hsz)) hd ⟨by omega, by omega⟩) hS h1 h2 (by rw [hlim]; exact g1) (by rw [hlim]; exact g2) hL
      (fun r M' w1 w2 hQ => hk _ _ _ ⟨w1, hw.2.1, fun v hv => by
      rcases List.mem_append.mp hv with hv | hv
      · exact w2 v (Option.mem_toList.mp hv)
      · exact hwS v hv⟩ hQ)
    show List.map (cv base adC) _ = _
    simp [cv]
  · have hcw := cn_of (y := y) hdd hm hts hfr hlo hpar (hKF.2.2.1 _ hl1)
    rw [hvo] at hcw hM
    refine after_run (va_runIN (b := base + q) (As := a'.map (cv base adC)) (rest := S'.map (cv base adC)) ⟨hx, hb, hml, hown, hts⟩ hM ⟨hcw, hin, hts _ hl3⟩ ⟨bl_Pc, fun U hU hW => ⟨rfl, by rw [hU]; exact hR, va_K.moved hW.alike hKK, KF.kept (KF.moved hW hKF) (fun x hx1 hx2 => by rw [hU]; exact hS.2.1 x hx1 hx2)⟩⟩ rfl (by simp at hb2; simp; omega) (by exact hL.2.1) ?_ (lv_room (by rw [szS_cat]; exact hsz)) hd ⟨by omega, by omega⟩) hS h1 h2 (by rw [hlim]; exact g1) (by rw [hlim]; exact g2) hL
      (fun r M' w1 w2 hQ => hk _ _ _ ⟨w1, hw.2.1, fun v hv => by
      rcases List.mem_append.mp hv with hv | hv
      · exact w2 v (Option.mem_toList.mp hv)
      · exact hwS v hv⟩ hQ)
    show List.map (cv base adC) _ = _
    simp [cv]
end ST6
