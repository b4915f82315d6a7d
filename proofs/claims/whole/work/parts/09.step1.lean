/-! one instruction: locals, stack, numbers, branches -/
section LOC
variable {base : Nat} {adC : Nat → Nat} {L : List Vx} {ls : Array Slot} {nL : Nat}
theorem gl_lt : ∀ {L : List Vx} {k : Nat}, gl L k ≠ vc 0 → k < L.length
  | [], k, h => absurd rfl h
  | _ :: _, 0, _ => Nat.succ_pos _
  | _ :: L, k + 1, h => Nat.succ_lt_succ (gl_lt (L := L) (k := k) h)
theorem gl_mem : ∀ {L : List Vx} {k : Nat}, k < L.length → gl L k ∈ L
  | [], k, h => absurd h (Nat.not_lt_zero _)
  | _ :: _, 0, _ => List.mem_cons_self
  | _ :: L, k + 1, h => List.mem_cons_of_mem _ (gl_mem (L := L) (Nat.lt_of_succ_lt_succ h))
theorem gl_wf {k : Nat} (h : ∀ v ∈ L, wfV v) : wfV (gl L k) := by
  by_cases hk : k < L.length
  · exact h _ (gl_mem hk)
  · have : gl L k = vc 0 := Classical.byContradiction fun z => hk (gl_lt z)
    rw [this]; trivial
theorem sl_len : ∀ {L : List Vx} {k : Nat} {v : Vx}, (sl L k v).length = L.length
  | [], _, _ => rfl
  | _ :: _, 0, _ => rfl
  | _ :: L, k + 1, v => by simp [sl, sl_len (L := L)]
theorem gl_sl : ∀ {L : List Vx} {k : Nat} {v : Vx}, k < L.length → gl (sl L k v) k = v
  | [], k, _, h => absurd h (Nat.not_lt_zero _)
  | _ :: _, 0, _, _ => rfl
  | _ :: L, k + 1, v, h => gl_sl (L := L) (Nat.lt_of_succ_lt_succ h)
theorem gl_sl_ne : ∀ {L : List Vx} {k j : Nat} {v : Vx}, j ≠ k → gl (sl L k v) j = gl L j
  | [], _, _, _, _ => rfl
  | _ :: _, 0, 0, _, h => absurd rfl h
  | _ :: _, 0, _ + 1, _, _ => rfl
  | _ :: _, _ + 1, 0, _, _ => rfl
  | _ :: L, k + 1, j + 1, v, h => gl_sl_ne (L := L) (fun e => h (by rw [e]))
theorem sl_wf : ∀ {L : List Vx} {k : Nat} {v : Vx}, (∀ w ∈ L, wfV w) → wfV v → ∀ w ∈ sl L k v, wfV w
  | [], _, _, h, _ => h
  | _ :: L, 0, v, h, hv => fun w hw => by
    rcases List.mem_cons.mp hw with rfl | hw
    · exact hv
    · exact h w (List.mem_cons_of_mem _ hw)
  | u :: L, k + 1, v, h, hv => fun w hw => by
    rcases List.mem_cons.mp hw with rfl | hw
    · exact h _ List.mem_cons_self
    · exact sl_wf (L := L) (fun x hx => h x (List.mem_cons_of_mem _ hx)) hv w hw
theorem kn_mem {k : Nat} (h : gl L k ≠ vc 0) : (k, cv base adC (gl L k)) ∈ kn base adC L := by
  unfold kn
  exact List.mem_filterMap.mpr ⟨k, List.mem_range.mpr (gl_lt h), by rw [if_neg h]⟩
theorem kn_inv {q : Nat × Value} (h : q ∈ kn base adC L) : gl L q.1 ≠ vc 0 ∧ q.2 = cv base adC (gl L q.1) := by
  unfold kn at h
  obtain ⟨k, -, hk⟩ := List.mem_filterMap.mp h
  by_cases hz : gl L k = vc 0
  · rw [if_pos hz] at hk; cases hk
  · rw [if_neg hz] at hk; cases hk
    exact ⟨hz, rfl⟩
theorem lv_mono {l l' : List (Nat × Value)} (h : lv_has ls nL l) (hs : ∀ q ∈ l', q ∈ l) : lv_has ls nL l' := ⟨h.1, h.2.1, fun q hq => h.2.2 q (hs q hq)⟩
theorem LR_get (h : LR base adC L ls nL) {k : Nat} {v : Vx} (hv : gl L k = v) (hz : v ≠ vc 0) : ls[k]? = some (.val (cv base adC v)) := by
  subst hv
  exact h.2.2.2 _ (kn_mem hz)
theorem cat_l {v : Vx} (h : isL v = false) : (cv base adC v).category = 1 := by
  rcases v with v | v | v | v
  · rfl
  · simp [isL] at h
  · rfl
  · cases v <;> rfl
theorem LR_set1 {k : Nat} {v : Vx} (h : LR base adC L ls nL) (hk : k < nL) (hok : okS L k = true) {ls' : Array Slot}
    (h' : lv_has ls' nL ((k, cv base adC v) :: (kn base adC L).filter (fun q => !(q.1 == k) && !(q.1 + 1 == k && q.2.category == 2)))) : LR base adC (sl L k v) ls' nL := by
  refine ⟨by rw [sl_len]; exact h.1, lv_mono h' fun q hq => ?_⟩
  obtain ⟨a, b⟩ := q
  obtain ⟨h1, h2⟩ := kn_inv hq
  simp only at h1 h2
  by_cases e : a = k
  · subst e
    rw [gl_sl (by rw [h.1]; exact hk)] at h2
    rw [h2]; exact List.mem_cons_self
  · rw [gl_sl_ne e] at h1 h2
    refine List.mem_cons_of_mem _ (List.mem_filter.mpr ⟨by rw [h2]; exact kn_mem h1, ?_⟩)
    by_cases e2 : a + 1 = k
    · subst e2
      have h3 : isL (gl L a) = false := by simpa [okS] using hok
      simp [h2, cat_l h3]
    · simp [e, e2]
theorem LR_set2 {k : Nat} {v : Vx} (h : LR base adC L ls nL) (hk : k + 1 < nL) (hok : okS L k = true) {ls' : Array Slot}
    (h' : lv_has ls' nL ((k, cv base adC v) :: (kn base adC L).filter (fun q => !(q.1 == k) && (!(q.1 == k + 1) && !(q.1 + 1 == k && q.2.category == 2))))) : LR base adC (sl (sl L k v) (k + 1) (vc 0)) ls' nL := by
  refine ⟨by rw [sl_len, sl_len]; exact h.1, lv_mono h' fun q hq => ?_⟩
  obtain ⟨a, b⟩ := q
  obtain ⟨h1, h2⟩ := kn_inv hq
  simp only at h1 h2
  by_cases e0 : a = k + 1
  · subst e0
    rw [gl_sl (by rw [sl_len, h.1]; exact hk)] at h1
    exact absurd rfl h1
  · rw [gl_sl_ne e0] at h1 h2
    by_cases e : a = k
    · subst e
      rw [gl_sl (by rw [h.1]; omega)] at h2
      rw [h2]; exact List.mem_cons_self
    · rw [gl_sl_ne e] at h1 h2
      refine List.mem_cons_of_mem _ (List.mem_filter.mpr ⟨by rw [h2]; exact kn_mem h1, ?_⟩)
      by_cases e2 : a + 1 = k
      · subst e2
        have h3 : isL (gl L a) = false := by simpa [okS] using hok
        simp [h2, cat_l h3]; omega
      · simp [e, e2, e0]
end LOC

def AtW (base : Nat) (adC : Nat → Nat) (cI : ClassId) (D : va_G) (l : Launch) (lim : Nat × Nat) (y : Nat) (p : Program) (e : Env) (R : Room) (s : State) (m : MethodId) (args : Array Value) (below : List Frame) (meth : Method) (c : Code) (Z : State → Prop) (n0 s0 : Nat) (pc : Nat) (L S : List Vx) (M : Mx) : Prop :=
  ∀ (H : Heap) (locs : List Loc) (cells slots : Nat) (ls : Array Slot), RS base adC cI D M H → va_S (oA base) s.heap H locs → n0 + cells = M.1 → s0 + slots = M.2.1 → M.1 ≤ lim.1 → M.2.1 ≤ lim.2 → LR base adC L ls (mL y) →
    W p l e R s m args below meth c H locs cells slots Z (F0 m pc ls (S.map (cv base adC)))
def wf3 (L S : List Vx) (M : Mx) : Prop := wfM M ∧ (∀ v ∈ L, wfV v) ∧ ∀ v ∈ S, wfV v
section STP
variable {base : Nat} {adC adV : Nat → Nat} {cI : ClassId} {D : va_G} {ce : Cx} {l : Launch} {lim : Nat × Nat} {y d : Nat} {p : Program} {e : Env} {R : Room} {s : State} {m : MethodId} {args : Array Value} {below : List Frame} {meth : Method} {c : Code} {Z : State → Prop} {n0 s0 : Nat} {pc : Nat} {L S : List Vx} {M : Mx} {k : Kx}
theorem wf_tl {v : Vx} (h : wf3 L (v :: S) M) : wf3 L S M := ⟨h.1, h.2.1, fun w hw => h.2.2 w (List.mem_cons_of_mem _ hw)⟩
theorem wf_hd {v : Vx} (h : wf3 L (v :: S) M) : wfV v := h.2.2 _ List.mem_cons_self
theorem wf_cons {v : Vx} (h : wf3 L S M) (hv : wfV v) : wf3 L (v :: S) M := ⟨h.1, h.2.1, fun w hw => by
  rcases List.mem_cons.mp hw with rfl | hw
  · exact hv
  · exact h.2.2 w hw⟩
theorem wf_set {v : Vx} {j : Nat} (h : wf3 L S M) (hv : wfV v) : wf3 (sl L j v) S M := ⟨h.1, sl_wf h.2.1 hv, h.2.2⟩
theorem s_load {ins : Instr} {n j ty : Nat} (hC : CX base adC adV cI D ce y d p R s m args meth c) (hd : decode (mC y) pc = .ok (ins, n)) (hw : wf3 L S M) (h : wLd L S M k j ty)
    (hi : (ty = 0 ∧ n = 2 ∧ ins = .iload j) ∨ (ty = 0 ∧ n = 1 ∧ ∃ q : Fin 4, q.val = j ∧ ins = .iload_n q) ∨ (ty = 1 ∧ n = 2 ∧ ins = .lload j) ∨ (ty = 1 ∧ n = 1 ∧ ∃ q : Fin 4, q.val = j ∧ ins = .lload_n q) ∨ (ty = 2 ∧ n = 2 ∧ ins = .aload j) ∨ (ty = 2 ∧ n = 1 ∧ ∃ q : Fin 4, q.val = j ∧ ins = .aload_n q))
    (hk : ∀ L' S' M', wf3 L' S' M' → k L' S' M' → AtW base adC cI D l lim y p e R s m args below meth c Z n0 s0 (pc + n) L' S' M') : AtW base adC cI D l lim y p e R s m args below meth c Z n0 s0 pc L S M := by
  intro H locs cells slots ls hR hS h1 h2 h3 h4 hL
  obtain ⟨hx, hb, -⟩ := hC
  have hwj := gl_wf (k := j) hw.2.1
  rcases hi with ⟨rfl, rfl, rfl⟩ | ⟨rfl, rfl, q, rfl, rfl⟩ | ⟨rfl, rfl, rfl⟩ | ⟨rfl, rfl, q, rfl, rfl⟩ | ⟨rfl, rfl, rfl⟩ | ⟨rfl, rfl, q, rfl, rfl⟩
  · rw [wLd0] at h
    rcases hg : gl L j with x | x | x | x <;> rw [hg] at h hwj <;> try exact h.elim
    exact lv_iload hx hb hd (LR_get hL hg (by simp)) (hk _ _ _ (wf_cons hw hwj) h H locs cells slots ls hR hS h1 h2 h3 h4 hL)
  · rw [wLd0] at h
    rcases hg : gl L q.val with x | x | x | x <;> rw [hg] at h hwj <;> try exact h.elim
    exact lv_iload_n hx hb hd rfl (LR_get hL hg (by simp)) (hk _ _ _ (wf_cons hw hwj) h H locs cells slots ls hR hS h1 h2 h3 h4 hL)
  · rw [wLd1] at h
    rcases hg : gl L j with x | x | x | x <;> rw [hg] at h hwj <;> try exact h.elim
    exact lv_lload hx hb hd (LR_get hL hg (by simp)) (hk _ _ _ (wf_cons hw hwj) h H locs cells slots ls hR hS h1 h2 h3 h4 hL)
  · rw [wLd1] at h
    rcases hg : gl L q.val with x | x | x | x <;> rw [hg] at h hwj <;> try exact h.elim
    exact lv_lload_n hx hb hd rfl (LR_get hL hg (by simp)) (hk _ _ _ (wf_cons hw hwj) h H locs cells slots ls hR hS h1 h2 h3 h4 hL)
  · rw [wLd2] at h
    rcases hg : gl L j with x | x | x | x <;> rw [hg] at h hwj <;> try exact h.elim
    · exact lv_aload hx hb hd (LR_get hL hg (by simp)) (hk _ _ _ (wf_cons hw hwj) h H locs cells slots ls hR hS h1 h2 h3 h4 hL)
    · cases x with
      | zero => exact h.elim
      | succ x => exact lv_aload hx hb hd (LR_get hL hg (by simp)) (hk _ _ _ (wf_cons hw hwj) h H locs cells slots ls hR hS h1 h2 h3 h4 hL)
  · rw [wLd2] at h
    rcases hg : gl L q.val with x | x | x | x <;> rw [hg] at h hwj <;> try exact h.elim
    · exact lv_aload_n hx hb hd rfl (LR_get hL hg (by simp)) (hk _ _ _ (wf_cons hw hwj) h H locs cells slots ls hR hS h1 h2 h3 h4 hL)
    · cases x with
      | zero => exact h.elim
      | succ x => exact lv_aload_n hx hb hd rfl (LR_get hL hg (by simp)) (hk _ _ _ (wf_cons hw hwj) h H locs cells slots ls hR hS h1 h2 h3 h4 hL)
theorem s_store {ins : Instr} {n j ty : Nat} (hC : CX base adC adV cI D ce y d p R s m args meth c) (hd : decode (mC y) pc = .ok (ins, n)) (hw : wf3 L S M) (h : wSt L S M k j ty)
    (hi : (ty = 0 ∧ n = 2 ∧ ins = .istore j) ∨ (ty = 0 ∧ n = 1 ∧ ∃ q : Fin 4, q.val = j ∧ ins = .istore_n q) ∨ (ty = 1 ∧ n = 2 ∧ ins = .lstore j) ∨ (ty = 1 ∧ n = 1 ∧ ∃ q : Fin 4, q.val = j ∧ ins = .lstore_n q) ∨ (ty = 2 ∧ n = 2 ∧ ins = .astore j) ∨ (ty = 2 ∧ n = 1 ∧ ∃ q : Fin 4, q.val = j ∧ ins = .astore_n q))
    (hj : locB (mL y) ins = true)
    (hk : ∀ L' S' M', wf3 L' S' M' → k L' S' M' → AtW base adC cI D l lim y p e R s m args below meth c Z n0 s0 (pc + n) L' S' M') : AtW base adC cI D l lim y p e R s m args below meth c Z n0 s0 pc L S M := by
  intro H locs cells slots ls hR hS h1 h2 h3 h4 hL
  obtain ⟨hx, hb, -⟩ := hC
  obtain ⟨hok, h⟩ := h
  rcases hi with ⟨rfl, rfl, rfl⟩ | ⟨rfl, rfl, q, rfl, rfl⟩ | ⟨rfl, rfl, rfl⟩ | ⟨rfl, rfl, q, rfl, rfl⟩ | ⟨rfl, rfl, rfl⟩ | ⟨rfl, rfl, q, rfl, rfl⟩ <;> simp only [locB, decide_eq_true_eq] at hj <;>
    rcases S with _ | ⟨v, S⟩ <;> try exact h.elim
  · rcases v with x | x | x | x <;> try exact h.elim
    exact lv_istore hx hb hd hL.2 hj rfl fun ls' h' => hk _ _ _ (wf_set (wf_tl hw) (wf_hd hw)) h H locs cells slots ls' hR hS h1 h2 h3 h4 (LR_set1 hL hj hok h')
  · rcases v with x | x | x | x <;> try exact h.elim
    exact lv_istore_n hx hb hd rfl hL.2 hj rfl fun ls' h' => hk _ _ _ (wf_set (wf_tl hw) (wf_hd hw)) h H locs cells slots ls' hR hS h1 h2 h3 h4 (LR_set1 hL hj hok h')
  · rcases v with x | x | x | x <;> try exact h.elim
    exact lv_lstore hx hb hd hL.2 hj rfl fun ls' h' => hk _ _ _ (wf_set (v := vc 0) (wf_set (wf_tl hw) (wf_hd hw)) trivial) h H locs cells slots ls' hR hS h1 h2 h3 h4 (LR_set2 hL hj hok h')
  · rcases v with x | x | x | x <;> try exact h.elim
    exact lv_lstore_n hx hb hd rfl hL.2 hj rfl fun ls' h' => hk _ _ _ (wf_set (v := vc 0) (wf_set (wf_tl hw) (wf_hd hw)) trivial) h H locs cells slots ls' hR hS h1 h2 h3 h4 (LR_set2 hL hj hok h')
  · rcases v with x | x | x | x <;> try exact h.elim
    · exact lv_astore hx hb hd hL.2 hj rfl fun ls' h' => hk _ _ _ (wf_set (wf_tl hw) (wf_hd hw)) h H locs cells slots ls' hR hS h1 h2 h3 h4 (LR_set1 (v := vr x) hL hj hok h')
    · cases x with
      | zero => exact h.elim
      | succ x => exact lv_astore hx hb hd hL.2 hj rfl fun ls' h' => hk _ _ _ (wf_set (wf_tl hw) (wf_hd hw)) h H locs cells slots ls' hR hS h1 h2 h3 h4 (LR_set1 (v := vc (x + 1)) hL hj hok h')
  · rcases v with x | x | x | x <;> try exact h.elim
    · exact lv_astore_n hx hb hd rfl hL.2 hj rfl fun ls' h' => hk _ _ _ (wf_set (wf_tl hw) (wf_hd hw)) h H locs cells slots ls' hR hS h1 h2 h3 h4 (LR_set1 (v := vr x) hL hj hok h')
    · cases x with
      | zero => exact h.elim
      | succ x => exact lv_astore_n hx hb hd rfl hL.2 hj rfl fun ls' h' => hk _ _ _ (wf_set (wf_tl hw) (wf_hd hw)) h H locs cells slots ls' hR hS h1 h2 h3 h4 (LR_set1 (v := vc (x + 1)) hL hj hok h')
end STP
theorem wf_ci {L S : List Vx} {M : Mx} {x : Int} (h : wf3 L S M) (hx : inR x) : wf3 L (.inl x :: S) M := wf_cons h hx
theorem wf_cl {L S : List Vx} {M : Mx} {x : Int} (h : wf3 L S M) (hx : inRL x) : wf3 L (.inr (.inl x) :: S) M := wf_cons h hx
theorem wf_si {L S : List Vx} {M : Mx} {x : Int} {j : Nat} (h : wf3 L S M) (hx : inR x) : wf3 (sl L j (.inl x)) S M := wf_set h hx
