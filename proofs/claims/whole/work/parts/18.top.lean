/-! A METHOD'S CONTRACT OUT OF ITS FIRST BLOCK -/
section TOP
variable {base : Nat} {adC adV : Nat → Nat} {cI : ClassId} {D : va_G} {ce : Cx} {l : Launch} {y d : Nat} {M : Mx} {Q : Qx}
def noL (a : List Vx) : Bool := a.all fun v => !isL v
theorem args_mem : ∀ (a : List Vx) (i k : Nat) (v : Vx), noL a = true → a[k]? = some v → (i + k, cv base adC v) ∈ lv_args i (a.map (cv base adC))
  | [], i, k, v, _, h => by simp at h
  | w :: a, i, 0, v, hn, h => by
    simp at h; subst h
    exact List.mem_cons_self
  | w :: a, i, k + 1, v, hn, h => by
    simp only [noL, List.all_cons, Bool.and_eq_true, Bool.not_eq_true'] at hn
    have hc : (cv base adC w).category = 1 := cat_l hn.1
    simp only [List.map_cons, lv_args, hc]
    have := args_mem a (i + 1) k v hn.2 (by simpa using h)
    rw [show i + 1 + k = i + (k + 1) by omega] at this
    exact List.mem_cons_of_mem _ this
theorem gl_app : ∀ (a : List Vx) (n k : Nat), gl (a ++ List.replicate n (vc 0)) k ≠ vc 0 → ∃ v, a[k]? = some v ∧ gl (a ++ List.replicate n (vc 0)) k = v
  | [], 0, k, h => absurd rfl h
  | [], n + 1, 0, h => absurd rfl h
  | [], n + 1, k + 1, h => gl_app [] n k h
  | w :: a, n, 0, h => ⟨w, rfl, rfl⟩
  | w :: a, n, k + 1, h => gl_app a n k h
theorem sl_noL : ∀ (a : List Vx), noL a = true → (lg_sl (a.map (cv base adC))).length = a.length
  | [], _ => rfl
  | w :: a, hn => by
    simp only [noL, List.all_cons, Bool.and_eq_true, Bool.not_eq_true'] at hn
    have hc : (cv base adC w).category = 1 := cat_l hn.1
    have := sl_noL a hn.2
    simp only [lg_sl, List.map_cons, List.flatMap_cons, hc] at this ⊢
    simp at this ⊢
    exact this
theorem C_of_T {a : List Vx} (hm : mOK y) (hn : noL a = true) (hl : a.length ≤ mL y)
    (h : Tq base adC adV cI D ce l d (M.1 + (bu y).1, M.2.1 + (bu y).2) y 0 (a ++ List.replicate (mL y - a.length) (vc 0)) [] M (fun r M' => (M'.1 = M.1 + (bu y).1 ∧ M'.2.1 = M.2.1 + (bu y).2) ∧ Q r M')) : Cq base adC adV cI D ce l d y a M Q := by
  intro hwM hwa
  refine Met.ofW (cc := mC y) (maxL := mL y) (ret := mR y) hm.2.2.2.2 rfl ?_
  intro p e s m args below meth c s₁ B hml hv
  obtain ⟨rfl, hR, hKK, hKF⟩ := hv
  have hts0 := atoms_spec (ws := .code (mN y) (mC y) (mL y) (mR y) :: gW) B.pre
  have hown : s.vm.findClass (mN y).cls = some m.cls := findClass_of_methodNamed B.named
  have hnm : meth.name = (mN y).name := (name_of_methodNamed B.named B.method).1
  rw [lg_entry_eq]
  have hen := lv_entry (a.map (cv base adC)) (n := mL y) (by rw [sl_noL a hn]; exact hl)
  refine h hwM (fun v hv => ?_) (fun v hv => by cases hv) p e _ s m _ below meth c _ M.1 M.2.1 ⟨B.exec, B.bytes, hml, hown, fun w hw => hts0 w (List.mem_cons_of_mem _ hw), hKK, hKF, fun hi => hnm.trans hi, B.returns, B.notSynchronized, Nat.le_refl _, Nat.le_refl _, by have := hR.2; omega⟩ rfl ?_ s.heap [] 0 0 _ hR va_S.rf (by omega) (by omega) (by show M.1 ≤ M.1 + _; omega) (by show M.2.1 ≤ M.2.1 + _; omega) ⟨by simp; omega, lv_mono hen (fun q hq => ?_)⟩
  · rcases List.mem_append.mp hv with hv | hv
    · exact hwa v hv
    · rw [List.eq_of_mem_replicate hv]; trivial
  · intro r M' H' locs' cells' slots' pc' ls' hQ w1 w2 hR' hS' c1 c2 c3 c4 hrt
    obtain ⟨⟨q1, q2⟩, hQ⟩ := hQ
    have e1 : cells' = (bu y).1 := by omega
    have e2 : slots' = (bu y).2 := by omega
    subst e1; subst e2
    have post : ∀ t : State, t.heap = H' → ∃ (r' : Option Vx) (M'' : Mx), Outcome.returned (r.map (cv base adC)) = .returned (r'.map (cv base adC)) ∧ Q r' M'' ∧ wfM M'' ∧ (∀ v, r' = some v → wfV v) ∧ M''.1 = M.1 + (bu y).1 ∧ M''.2.1 = M.2.1 + (bu y).2 ∧ RS base adC cI D M'' t.heap ∧ va_F (oA base) s t :=
      fun t ht => ⟨r, M', rfl, hQ, w1, w2, q1, q2, by rw [ht]; exact hR', hS'.F ht⟩
    rcases r with _ | v | v | v | v
    · exact W.vret B.exec B.bytes (B.returns.trans hrt.2) (fun t ht _ => post t ht) hS'.2.2 hrt.1
    · rcases hrt.2 with hr | ⟨hr, h01⟩
      · exact W.iret B.exec B.bytes (B.returns.trans hr) (fun t ht _ => post t ht) hS'.2.2 hrt.1
      · exact W.zret (ty := .boolean) B.exec B.bytes (B.returns.trans hr) (by rcases h01 with rfl | rfl <;> rfl) (fun t ht _ => post t ht) hS'.2.2 hrt.1
    · exact W.lret B.exec B.bytes (B.returns.trans hrt.2) (fun t ht _ => post t ht) hS'.2.2 hrt.1
    · obtain ⟨hd, rt, hr, hk⟩ := hrt
      exact W.aret B.exec B.bytes (B.returns.trans hr) hk (Or.inr ⟨_, rfl⟩) (fun t ht _ => post t ht) hS'.2.2 hd
    · exact hrt.elim
  · obtain ⟨i, v⟩ := q
    obtain ⟨h1, h2⟩ := kn_inv hq
    obtain ⟨w, h3, h4⟩ := gl_app a _ i h1
    simp only at h2
    rw [h2, h4]
    have := args_mem (base := base) (adC := adC) a 0 i w hn h3
    rwa [Nat.zero_add] at this
theorem Cq_mono {a : List Vx} {Q' : Qx} (h : Cq base adC adV cI D ce l d y a M Q) (hQ : ∀ r M', Q r M' → Q' r M') : Cq base adC adV cI D ce l d y a M Q' := by
  intro hwM hwa
  have hM := h hwM hwa
  intro p e ha hc hk s m args below hf happ hpre hK
  obtain ⟨k, o, h1, h2, h3, ⟨r, M', q1, q2, q3⟩, h5⟩ := hM p e ha hc hk s m args below hf happ hpre hK
  exact ⟨k, o, h1, h2, h3, ⟨r, M', q1, hQ _ _ q2, q3⟩, h5⟩
end TOP
