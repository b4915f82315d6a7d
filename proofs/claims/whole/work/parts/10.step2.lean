/-! one instruction: numbers and branches -/
section ST2
variable {base : Nat} {adC adV : Nat → Nat} {cI : ClassId} {D : va_G} {ce : Cx} {l : Launch} {lim : Nat × Nat} {y d : Nat} {p : Program} {e : Env} {R : Room} {s : State} {m : MethodId} {args : Array Value} {below : List Frame} {meth : Method} {c : Code} {Z : State → Prop} {n0 s0 : Nat} {pc : Nat} {L S : List Vx} {M : Mx} {k : Kx} {K : Nat → Kx}
theorem s_iadd (hC : CX base adC adV cI D ce y d p R s m args meth c) (hd : decode (mC y) pc = .ok (.iadd, 1)) (hw : wf3 L S M) (h : match (generalizing := false) S with | .inl b :: .inl a :: S => k L (.inl (wr (a + b)) :: S) M | _ => False) (hk : ∀ L' S' M', wf3 L' S' M' → k L' S' M' → AtW base adC cI D l lim y p e R s m args below meth c Z n0 s0 (pc + 1) L' S' M')  : AtW base adC cI D l lim y p e R s m args below meth c Z n0 s0 pc L S M := by
  intro H locs cells slots ls hR hS h1 h2 h3 h4 hL
  obtain ⟨hx, hb, -⟩ := hC
  rcases S with _ | ⟨v | v | v | v, S⟩ <;> try exact h.elim
  rcases S with _ | ⟨w | w | w | w, S⟩ <;> try exact h.elim
  refine lv_iadd hx hb hd ?_
  rw [i32_add]
  exact hk _ _ _ (wf_ci (wf_tl (wf_tl hw)) (wr_in _)) h H locs cells slots ls hR hS h1 h2 h3 h4 hL
theorem s_isub (hC : CX base adC adV cI D ce y d p R s m args meth c) (hd : decode (mC y) pc = .ok (.isub, 1)) (hw : wf3 L S M) (h : match (generalizing := false) S with | .inl b :: .inl a :: S => k L (.inl (wr (a - b)) :: S) M | _ => False) (hk : ∀ L' S' M', wf3 L' S' M' → k L' S' M' → AtW base adC cI D l lim y p e R s m args below meth c Z n0 s0 (pc + 1) L' S' M')  : AtW base adC cI D l lim y p e R s m args below meth c Z n0 s0 pc L S M := by
  intro H locs cells slots ls hR hS h1 h2 h3 h4 hL
  obtain ⟨hx, hb, -⟩ := hC
  rcases S with _ | ⟨v | v | v | v, S⟩ <;> try exact h.elim
  rcases S with _ | ⟨w | w | w | w, S⟩ <;> try exact h.elim
  refine lv_isub hx hb hd ?_
  rw [i32_sub]
  exact hk _ _ _ (wf_ci (wf_tl (wf_tl hw)) (wr_in _)) h H locs cells slots ls hR hS h1 h2 h3 h4 hL
theorem s_imul (hC : CX base adC adV cI D ce y d p R s m args meth c) (hd : decode (mC y) pc = .ok (.imul, 1)) (hw : wf3 L S M) (h : match (generalizing := false) S with | .inl b :: .inl a :: S => k L (.inl (wr (a * b)) :: S) M | _ => False) (hk : ∀ L' S' M', wf3 L' S' M' → k L' S' M' → AtW base adC cI D l lim y p e R s m args below meth c Z n0 s0 (pc + 1) L' S' M')  : AtW base adC cI D l lim y p e R s m args below meth c Z n0 s0 pc L S M := by
  intro H locs cells slots ls hR hS h1 h2 h3 h4 hL
  obtain ⟨hx, hb, -⟩ := hC
  rcases S with _ | ⟨v | v | v | v, S⟩ <;> try exact h.elim
  rcases S with _ | ⟨w | w | w | w, S⟩ <;> try exact h.elim
  refine lv_imul hx hb hd ?_
  rw [i32_mul]
  exact hk _ _ _ (wf_ci (wf_tl (wf_tl hw)) (wr_in _)) h H locs cells slots ls hR hS h1 h2 h3 h4 hL
theorem s_iand (hC : CX base adC adV cI D ce y d p R s m args meth c) (hd : decode (mC y) pc = .ok (.iand, 1)) (hw : wf3 L S M) (h : match (generalizing := false) S with | .inl b :: .inl a :: S => k L (.inl (ian a b) :: S) M | _ => False) (hk : ∀ L' S' M', wf3 L' S' M' → k L' S' M' → AtW base adC cI D l lim y p e R s m args below meth c Z n0 s0 (pc + 1) L' S' M')  : AtW base adC cI D l lim y p e R s m args below meth c Z n0 s0 pc L S M := by
  intro H locs cells slots ls hR hS h1 h2 h3 h4 hL
  obtain ⟨hx, hb, -⟩ := hC
  rcases S with _ | ⟨v | v | v | v, S⟩ <;> try exact h.elim
  rcases S with _ | ⟨w | w | w | w, S⟩ <;> try exact h.elim
  refine lv_iand hx hb hd ?_
  rw [i32_and]
  exact hk _ _ _ (wf_ci (wf_tl (wf_tl hw)) (ian_in _ _)) h H locs cells slots ls hR hS h1 h2 h3 h4 hL
theorem s_idiv (hC : CX base adC adV cI D ce y d p R s m args meth c) (hd : decode (mC y) pc = .ok (.idiv, 1)) (hw : wf3 L S M) (h : match (generalizing := false) S with | .inl b :: .inl a :: S => b ≠ 0 ∧ k L (.inl (wr (a.tdiv b)) :: S) M | _ => False) (hk : ∀ L' S' M', wf3 L' S' M' → k L' S' M' → AtW base adC cI D l lim y p e R s m args below meth c Z n0 s0 (pc + 1) L' S' M')  : AtW base adC cI D l lim y p e R s m args below meth c Z n0 s0 pc L S M := by
  intro H locs cells slots ls hR hS h1 h2 h3 h4 hL
  obtain ⟨hx, hb, -⟩ := hC
  rcases S with _ | ⟨v | v | v | v, S⟩ <;> try exact h.elim
  rcases S with _ | ⟨w | w | w | w, S⟩ <;> try exact h.elim
  have hv : inR v := wf_hd hw
  have hu : inR w := wf_hd (wf_tl hw)
  refine lv_idiv hx hb hd (fun q => h.1 ((i32_eq hv in_0).mp (q.trans i32_0.symm))) ?_
  rw [i32_div hu hv]
  exact hk _ _ _ (wf_ci (wf_tl (wf_tl hw)) (wr_in _)) h.2 H locs cells slots ls hR hS h1 h2 h3 h4 hL
theorem s_irem (hC : CX base adC adV cI D ce y d p R s m args meth c) (hd : decode (mC y) pc = .ok (.irem, 1)) (hw : wf3 L S M) (h : match (generalizing := false) S with | .inl b :: .inl a :: S => b ≠ 0 ∧ k L (.inl (a.tmod b) :: S) M | _ => False) (hk : ∀ L' S' M', wf3 L' S' M' → k L' S' M' → AtW base adC cI D l lim y p e R s m args below meth c Z n0 s0 (pc + 1) L' S' M')  : AtW base adC cI D l lim y p e R s m args below meth c Z n0 s0 pc L S M := by
  intro H locs cells slots ls hR hS h1 h2 h3 h4 hL
  obtain ⟨hx, hb, -⟩ := hC
  rcases S with _ | ⟨v | v | v | v, S⟩ <;> try exact h.elim
  rcases S with _ | ⟨w | w | w | w, S⟩ <;> try exact h.elim
  have hv : inR v := wf_hd hw
  have hu : inR w := wf_hd (wf_tl hw)
  refine lv_irem hx hb hd (fun q => h.1 ((i32_eq hv in_0).mp (q.trans i32_0.symm))) ?_
  rw [i32_rem hu hv]
  exact hk _ _ _ (wf_ci (wf_tl (wf_tl hw)) (tmod_in _ hu)) h.2 H locs cells slots ls hR hS h1 h2 h3 h4 hL
theorem s_ineg (hC : CX base adC adV cI D ce y d p R s m args meth c) (hd : decode (mC y) pc = .ok (.ineg, 1)) (hw : wf3 L S M) (h : match (generalizing := false) S with | .inl a :: S => k L (.inl (wr (-a)) :: S) M | _ => False) (hk : ∀ L' S' M', wf3 L' S' M' → k L' S' M' → AtW base adC cI D l lim y p e R s m args below meth c Z n0 s0 (pc + 1) L' S' M')  : AtW base adC cI D l lim y p e R s m args below meth c Z n0 s0 pc L S M := by
  intro H locs cells slots ls hR hS h1 h2 h3 h4 hL
  obtain ⟨hx, hb, -⟩ := hC
  rcases S with _ | ⟨v | v | v | v, S⟩ <;> try exact h.elim
  refine lv_ineg hx hb hd ?_
  rw [i32_neg]
  exact hk _ _ _ (wf_ci (wf_tl hw) (wr_in _)) h H locs cells slots ls hR hS h1 h2 h3 h4 hL
theorem s_ladd (hC : CX base adC adV cI D ce y d p R s m args meth c) (hd : decode (mC y) pc = .ok (.ladd, 1)) (hw : wf3 L S M) (h : match (generalizing := false) S with | .inr (.inl b) :: .inr (.inl a) :: S => k L (.inr (.inl (wrl (a + b))) :: S) M | _ => False) (hk : ∀ L' S' M', wf3 L' S' M' → k L' S' M' → AtW base adC cI D l lim y p e R s m args below meth c Z n0 s0 (pc + 1) L' S' M')  : AtW base adC cI D l lim y p e R s m args below meth c Z n0 s0 pc L S M := by
  intro H locs cells slots ls hR hS h1 h2 h3 h4 hL
  obtain ⟨hx, hb, -⟩ := hC
  rcases S with _ | ⟨v | v | v | v, S⟩ <;> try exact h.elim
  rcases S with _ | ⟨w | w | w | w, S⟩ <;> try exact h.elim
  refine lv_ladd hx hb hd ?_
  rw [i64_add]
  exact hk _ _ _ (wf_cl (wf_tl (wf_tl hw)) (wrl_in _)) h H locs cells slots ls hR hS h1 h2 h3 h4 hL
theorem s_lmul (hC : CX base adC adV cI D ce y d p R s m args meth c) (hd : decode (mC y) pc = .ok (.lmul, 1)) (hw : wf3 L S M) (h : match (generalizing := false) S with | .inr (.inl b) :: .inr (.inl a) :: S => k L (.inr (.inl (wrl (a * b))) :: S) M | _ => False) (hk : ∀ L' S' M', wf3 L' S' M' → k L' S' M' → AtW base adC cI D l lim y p e R s m args below meth c Z n0 s0 (pc + 1) L' S' M')  : AtW base adC cI D l lim y p e R s m args below meth c Z n0 s0 pc L S M := by
  intro H locs cells slots ls hR hS h1 h2 h3 h4 hL
  obtain ⟨hx, hb, -⟩ := hC
  rcases S with _ | ⟨v | v | v | v, S⟩ <;> try exact h.elim
  rcases S with _ | ⟨w | w | w | w, S⟩ <;> try exact h.elim
  refine lv_lmul hx hb hd ?_
  rw [i64_mul]
  exact hk _ _ _ (wf_cl (wf_tl (wf_tl hw)) (wrl_in _)) h H locs cells slots ls hR hS h1 h2 h3 h4 hL
theorem s_ldiv (hC : CX base adC adV cI D ce y d p R s m args meth c) (hd : decode (mC y) pc = .ok (.ldiv, 1)) (hw : wf3 L S M) (h : match (generalizing := false) S with | .inr (.inl b) :: .inr (.inl a) :: S => b ≠ 0 ∧ k L (.inr (.inl (wrl (a.tdiv b))) :: S) M | _ => False) (hk : ∀ L' S' M', wf3 L' S' M' → k L' S' M' → AtW base adC cI D l lim y p e R s m args below meth c Z n0 s0 (pc + 1) L' S' M')  : AtW base adC cI D l lim y p e R s m args below meth c Z n0 s0 pc L S M := by
  intro H locs cells slots ls hR hS h1 h2 h3 h4 hL
  obtain ⟨hx, hb, -⟩ := hC
  rcases S with _ | ⟨v | v | v | v, S⟩ <;> try exact h.elim
  rcases S with _ | ⟨w | w | w | w, S⟩ <;> try exact h.elim
  have hv : inRL v := wf_hd hw
  have hu : inRL w := wf_hd (wf_tl hw)
  refine lv_ldiv hx hb hd (fun q => h.1 ((i64_eq hv (by unfold inRL; omega)).mp (q.trans (by decide)))) ?_
  rw [i64_div hu hv]
  exact hk _ _ _ (wf_cl (wf_tl (wf_tl hw)) (wrl_in _)) h.2 H locs cells slots ls hR hS h1 h2 h3 h4 hL
theorem s_lrem (hC : CX base adC adV cI D ce y d p R s m args meth c) (hd : decode (mC y) pc = .ok (.lrem, 1)) (hw : wf3 L S M) (h : match (generalizing := false) S with | .inr (.inl b) :: .inr (.inl a) :: S => b ≠ 0 ∧ k L (.inr (.inl (a.tmod b)) :: S) M | _ => False) (hk : ∀ L' S' M', wf3 L' S' M' → k L' S' M' → AtW base adC cI D l lim y p e R s m args below meth c Z n0 s0 (pc + 1) L' S' M')  : AtW base adC cI D l lim y p e R s m args below meth c Z n0 s0 pc L S M := by
  intro H locs cells slots ls hR hS h1 h2 h3 h4 hL
  obtain ⟨hx, hb, -⟩ := hC
  rcases S with _ | ⟨v | v | v | v, S⟩ <;> try exact h.elim
  rcases S with _ | ⟨w | w | w | w, S⟩ <;> try exact h.elim
  have hv : inRL v := wf_hd hw
  have hu : inRL w := wf_hd (wf_tl hw)
  refine lv_lrem hx hb hd (fun q => h.1 ((i64_eq hv (by unfold inRL; omega)).mp (q.trans (by decide)))) ?_
  rw [i64_rem hu hv]
  exact hk _ _ _ (wf_cl (wf_tl (wf_tl hw)) (tmod_inl _ hu)) h.2 H locs cells slots ls hR hS h1 h2 h3 h4 hL
theorem s_lcmp (hC : CX base adC adV cI D ce y d p R s m args meth c) (hd : decode (mC y) pc = .ok (.lcmp, 1)) (hw : wf3 L S M) (h : match (generalizing := false) S with | .inr (.inl b) :: .inr (.inl a) :: S => k L (.inl (lcm a b) :: S) M | _ => False) (hk : ∀ L' S' M', wf3 L' S' M' → k L' S' M' → AtW base adC cI D l lim y p e R s m args below meth c Z n0 s0 (pc + 1) L' S' M')  : AtW base adC cI D l lim y p e R s m args below meth c Z n0 s0 pc L S M := by
  intro H locs cells slots ls hR hS h1 h2 h3 h4 hL
  obtain ⟨hx, hb, -⟩ := hC
  rcases S with _ | ⟨v | v | v | v, S⟩ <;> try exact h.elim
  rcases S with _ | ⟨w | w | w | w, S⟩ <;> try exact h.elim
  have hv : inRL v := wf_hd hw
  have hu : inRL w := wf_hd (wf_tl hw)
  refine W.lcmp hx hb hd ?_
  rw [i64_cmp hu hv]
  exact hk _ _ _ (wf_ci (wf_tl (wf_tl hw)) (lcm_in _ _)) h H locs cells slots ls hR hS h1 h2 h3 h4 hL
theorem s_i2l (hC : CX base adC adV cI D ce y d p R s m args meth c) (hd : decode (mC y) pc = .ok (.i2l, 1)) (hw : wf3 L S M) (h : match (generalizing := false) S with | .inl a :: S => k L (.inr (.inl a) :: S) M | _ => False) (hk : ∀ L' S' M', wf3 L' S' M' → k L' S' M' → AtW base adC cI D l lim y p e R s m args below meth c Z n0 s0 (pc + 1) L' S' M')  : AtW base adC cI D l lim y p e R s m args below meth c Z n0 s0 pc L S M := by
  intro H locs cells slots ls hR hS h1 h2 h3 h4 hL
  obtain ⟨hx, hb, -⟩ := hC
  rcases S with _ | ⟨v | v | v | v, S⟩ <;> try exact h.elim
  have hv : inR v := wf_hd hw
  refine lv_i2l hx hb hd (i32_i64 hv) ?_
  exact hk _ _ _ (wf_cl (wf_tl hw) (by unfold inR at hv; unfold inRL; omega)) h H locs cells slots ls hR hS h1 h2 h3 h4 hL
theorem s_l2i (hC : CX base adC adV cI D ce y d p R s m args meth c) (hd : decode (mC y) pc = .ok (.l2i, 1)) (hw : wf3 L S M) (h : match (generalizing := false) S with | .inr (.inl a) :: S => k L (.inl (wr a) :: S) M | _ => False) (hk : ∀ L' S' M', wf3 L' S' M' → k L' S' M' → AtW base adC cI D l lim y p e R s m args below meth c Z n0 s0 (pc + 1) L' S' M')  : AtW base adC cI D l lim y p e R s m args below meth c Z n0 s0 pc L S M := by
  intro H locs cells slots ls hR hS h1 h2 h3 h4 hL
  obtain ⟨hx, hb, -⟩ := hC
  rcases S with _ | ⟨v | v | v | v, S⟩ <;> try exact h.elim
  refine lv_l2i hx hb hd i64_i32 ?_
  exact hk _ _ _ (wf_ci (wf_tl hw) (wr_in _)) h H locs cells slots ls hR hS h1 h2 h3 h4 hL
theorem sz_cat {v : Vx} (h : szV v = 1) : (cv base adC v).category = 1 := cat_l (by rcases v with v | v | v | v <;> simp_all [szV, isL])
theorem s_dup (hC : CX base adC adV cI D ce y d p R s m args meth c) (hd : decode (mC y) pc = .ok (.dup, 1)) (hw : wf3 L S M) (h : match (generalizing := false) S with | v :: S => szV v = 1 ∧ k L (v :: v :: S) M | _ => False) (hk : ∀ L' S' M', wf3 L' S' M' → k L' S' M' → AtW base adC cI D l lim y p e R s m args below meth c Z n0 s0 (pc + 1) L' S' M')  : AtW base adC cI D l lim y p e R s m args below meth c Z n0 s0 pc L S M := by
  intro H locs cells slots ls hR hS h1 h2 h3 h4 hL
  obtain ⟨hx, hb, -⟩ := hC
  rcases S with _ | ⟨v, S⟩ <;> try exact h.elim
  refine lv_dup hx hb hd (sz_cat h.1) ?_
  exact hk _ _ _ (wf_cons hw (wf_hd hw)) h.2 H locs cells slots ls hR hS h1 h2 h3 h4 hL
theorem s_dup2 (hC : CX base adC adV cI D ce y d p R s m args meth c) (hd : decode (mC y) pc = .ok (.dup2, 1)) (hw : wf3 L S M) (h : match (generalizing := false) S with | v :: w :: S => (szV v = 1 ∧ szV w = 1) ∧ k L (v :: w :: v :: w :: S) M | _ => False) (hk : ∀ L' S' M', wf3 L' S' M' → k L' S' M' → AtW base adC cI D l lim y p e R s m args below meth c Z n0 s0 (pc + 1) L' S' M')  : AtW base adC cI D l lim y p e R s m args below meth c Z n0 s0 pc L S M := by
  intro H locs cells slots ls hR hS h1 h2 h3 h4 hL
  obtain ⟨hx, hb, -⟩ := hC
  rcases S with _ | ⟨v, _ | ⟨w, S⟩⟩ <;> try exact h.elim
  refine lv_dup2_11 hx hb hd (sz_cat h.1.1) (sz_cat h.1.2) ?_
  exact hk _ _ _ (wf_cons (wf_cons hw (wf_hd (wf_tl hw))) (wf_hd hw)) h.2 H locs cells slots ls hR hS h1 h2 h3 h4 hL
theorem s_pop (hC : CX base adC adV cI D ce y d p R s m args meth c) (hd : decode (mC y) pc = .ok (.pop, 1)) (hw : wf3 L S M) (h : match (generalizing := false) S with | v :: S => szV v = 1 ∧ k L S M | _ => False) (hk : ∀ L' S' M', wf3 L' S' M' → k L' S' M' → AtW base adC cI D l lim y p e R s m args below meth c Z n0 s0 (pc + 1) L' S' M')  : AtW base adC cI D l lim y p e R s m args below meth c Z n0 s0 pc L S M := by
  intro H locs cells slots ls hR hS h1 h2 h3 h4 hL
  obtain ⟨hx, hb, -⟩ := hC
  rcases S with _ | ⟨v, S⟩ <;> try exact h.elim
  refine lv_pop hx hb hd (sz_cat h.1) ?_
  exact hk _ _ _ (wf_tl hw) h.2 H locs cells slots ls hR hS h1 h2 h3 h4 hL
theorem s_iconst {n : Int} (hn : inR n) (hC : CX base adC adV cI D ce y d p R s m args meth c) (hd : decode (mC y) pc = .ok (.iconst n, 1)) (hw : wf3 L S M) (h : k L (.inl n :: S) M) (hk : ∀ L' S' M', wf3 L' S' M' → k L' S' M' → AtW base adC cI D l lim y p e R s m args below meth c Z n0 s0 (pc + 1) L' S' M')  : AtW base adC cI D l lim y p e R s m args below meth c Z n0 s0 pc L S M := by
  intro H locs cells slots ls hR hS h1 h2 h3 h4 hL
  obtain ⟨hx, hb, -⟩ := hC
  refine lv_iconst hx hb hd rfl ?_
  exact hk _ _ _ (wf_ci hw hn) h H locs cells slots ls hR hS h1 h2 h3 h4 hL
theorem s_bipush {n : Int} (hn : -128 ≤ n ∧ n < 128) (hC : CX base adC adV cI D ce y d p R s m args meth c) (hd : decode (mC y) pc = .ok (.bipush n, 2)) (hw : wf3 L S M) (h : k L (.inl n :: S) M) (hk : ∀ L' S' M', wf3 L' S' M' → k L' S' M' → AtW base adC cI D l lim y p e R s m args below meth c Z n0 s0 (pc + 2) L' S' M')  : AtW base adC cI D l lim y p e R s m args below meth c Z n0 s0 pc L S M := by
  intro H locs cells slots ls hR hS h1 h2 h3 h4 hL
  obtain ⟨hx, hb, -⟩ := hC
  refine lv_bipush hx hb hd (i32_bip hn.1 hn.2) ?_
  exact hk _ _ _ (wf_ci hw (by unfold inR; omega)) h H locs cells slots ls hR hS h1 h2 h3 h4 hL
theorem s_sipush {n : Int} (hn : -32768 ≤ n ∧ n < 32768) (hC : CX base adC adV cI D ce y d p R s m args meth c) (hd : decode (mC y) pc = .ok (.sipush n, 3)) (hw : wf3 L S M) (h : k L (.inl n :: S) M) (hk : ∀ L' S' M', wf3 L' S' M' → k L' S' M' → AtW base adC cI D l lim y p e R s m args below meth c Z n0 s0 (pc + 3) L' S' M')  : AtW base adC cI D l lim y p e R s m args below meth c Z n0 s0 pc L S M := by
  intro H locs cells slots ls hR hS h1 h2 h3 h4 hL
  obtain ⟨hx, hb, -⟩ := hC
  refine lv_sipush hx hb hd (i32_sip hn.1 hn.2) ?_
  exact hk _ _ _ (wf_ci hw (by unfold inR; omega)) h H locs cells slots ls hR hS h1 h2 h3 h4 hL
theorem s_iinc {j : Nat} {n : Int} (hj : j < mL y) (hC : CX base adC adV cI D ce y d p R s m args meth c) (hd : decode (mC y) pc = .ok (.iinc j n, 3)) (hw : wf3 L S M) (h : okS L j = true ∧ gI (gl L j) fun x => k (sl L j (.inl (wr (x + n)))) S M) (hk : ∀ L' S' M', wf3 L' S' M' → k L' S' M' → AtW base adC cI D l lim y p e R s m args below meth c Z n0 s0 (pc + 3) L' S' M')  : AtW base adC cI D l lim y p e R s m args below meth c Z n0 s0 pc L S M := by
  intro H locs cells slots ls hR hS h1 h2 h3 h4 hL
  obtain ⟨hx, hb, -⟩ := hC
  obtain ⟨hok, h⟩ := h
  have hwj := gl_wf (k := j) hw.2.1
  rcases hg : gl L j with x | x | x | x <;> rw [hg] at h hwj <;> try exact h.elim
  have hm := kn_mem (base := base) (adC := adC) (L := L) (k := j) (by rw [hg]; simp)
  rw [hg] at hm
  obtain ⟨i, hi⟩ := List.getElem?_of_mem hm
  refine lv_iinc hx hb hd hL.2 (k := i) hi (i32_add x n) hj rfl fun ls' h' => ?_
  exact hk _ _ _ (wf_si hw (wr_in _)) h H locs cells slots ls' hR hS h1 h2 h3 h4 (LR_set1 hL hj hok h')
theorem s_icmp_eq {off : Int} {t : Nat} (ht : (pc : Int) + off = (t : Int)) (hC : CX base adC adV cI D ce y d p R s m args meth c) (hd : decode (mC y) pc = .ok (.if_icmp .eq off, 3)) (hw : wf3 L S M) (h : match (generalizing := false) S with | .inl b :: .inl a :: S => (icm .eq a b → K t L S M) ∧ (¬ icm .eq a b → k L S M) | _ => False) (hk : ∀ L' S' M', wf3 L' S' M' → k L' S' M' → AtW base adC cI D l lim y p e R s m args below meth c Z n0 s0 (pc + 3) L' S' M') (hK : ∀ pc' L' S' M', wf3 L' S' M' → K pc' L' S' M' → AtW base adC cI D l lim y p e R s m args below meth c Z n0 s0 pc' L' S' M') : AtW base adC cI D l lim y p e R s m args below meth c Z n0 s0 pc L S M := by
  intro H locs cells slots ls hR hS h1 h2 h3 h4 hL
  obtain ⟨hx, hb, -⟩ := hC
  rcases S with _ | ⟨v | v | v | v, S⟩ <;> try exact h.elim
  rcases S with _ | ⟨w | w | w | w, S⟩ <;> try exact h.elim
  have hv : inR v := wf_hd hw
  have hu : inR w := wf_hd (wf_tl hw)
  refine lv_icmp_eq (tgt := t) hx hb hd ht (fun q => ?_) (fun q => ?_)
  · exact hK _ _ _ _ (wf_tl (wf_tl hw)) (h.1 ((i32_eq hu hv).mp q)) H locs cells slots ls hR hS h1 h2 h3 h4 hL
  · exact hk _ _ _ (wf_tl (wf_tl hw)) (h.2 (fun z => q ((i32_eq hu hv).mpr z))) H locs cells slots ls hR hS h1 h2 h3 h4 hL
theorem s_if_eq {off : Int} {t : Nat} (ht : (pc : Int) + off = (t : Int)) (hC : CX base adC adV cI D ce y d p R s m args meth c) (hd : decode (mC y) pc = .ok (.ifCond .eq off, 3)) (hw : wf3 L S M) (h : match (generalizing := false) S with | .inl a :: S => (icm .eq a 0 → K t L S M) ∧ (¬ icm .eq a 0 → k L S M) | _ => False) (hk : ∀ L' S' M', wf3 L' S' M' → k L' S' M' → AtW base adC cI D l lim y p e R s m args below meth c Z n0 s0 (pc + 3) L' S' M') (hK : ∀ pc' L' S' M', wf3 L' S' M' → K pc' L' S' M' → AtW base adC cI D l lim y p e R s m args below meth c Z n0 s0 pc' L' S' M') : AtW base adC cI D l lim y p e R s m args below meth c Z n0 s0 pc L S M := by
  intro H locs cells slots ls hR hS h1 h2 h3 h4 hL
  obtain ⟨hx, hb, -⟩ := hC
  rcases S with _ | ⟨v | v | v | v, S⟩ <;> try exact h.elim
  have hu : inR v := wf_hd hw
  refine lv_if_eq (tgt := t) hx hb hd ht (fun q => ?_) (fun q => ?_)
  · exact hK _ _ _ _ (wf_tl hw) (h.1 ((i32_eq hu in_0).mp (q.trans i32_0.symm))) H locs cells slots ls hR hS h1 h2 h3 h4 hL
  · exact hk _ _ _ (wf_tl hw) (h.2 (fun z => q (((i32_eq hu in_0).mpr z).trans i32_0))) H locs cells slots ls hR hS h1 h2 h3 h4 hL
theorem s_icmp_ne {off : Int} {t : Nat} (ht : (pc : Int) + off = (t : Int)) (hC : CX base adC adV cI D ce y d p R s m args meth c) (hd : decode (mC y) pc = .ok (.if_icmp .ne off, 3)) (hw : wf3 L S M) (h : match (generalizing := false) S with | .inl b :: .inl a :: S => (icm .ne a b → K t L S M) ∧ (¬ icm .ne a b → k L S M) | _ => False) (hk : ∀ L' S' M', wf3 L' S' M' → k L' S' M' → AtW base adC cI D l lim y p e R s m args below meth c Z n0 s0 (pc + 3) L' S' M') (hK : ∀ pc' L' S' M', wf3 L' S' M' → K pc' L' S' M' → AtW base adC cI D l lim y p e R s m args below meth c Z n0 s0 pc' L' S' M') : AtW base adC cI D l lim y p e R s m args below meth c Z n0 s0 pc L S M := by
  intro H locs cells slots ls hR hS h1 h2 h3 h4 hL
  obtain ⟨hx, hb, -⟩ := hC
  rcases S with _ | ⟨v | v | v | v, S⟩ <;> try exact h.elim
  rcases S with _ | ⟨w | w | w | w, S⟩ <;> try exact h.elim
  have hv : inR v := wf_hd hw
  have hu : inR w := wf_hd (wf_tl hw)
  refine lv_icmp_ne (tgt := t) hx hb hd ht (fun q => ?_) (fun q => ?_)
  · exact hK _ _ _ _ (wf_tl (wf_tl hw)) (h.1 (fun z => q ((i32_eq hu hv).mpr z))) H locs cells slots ls hR hS h1 h2 h3 h4 hL
  · exact hk _ _ _ (wf_tl (wf_tl hw)) (h.2 (fun z => z ((i32_eq hu hv).mp q))) H locs cells slots ls hR hS h1 h2 h3 h4 hL
theorem s_if_ne {off : Int} {t : Nat} (ht : (pc : Int) + off = (t : Int)) (hC : CX base adC adV cI D ce y d p R s m args meth c) (hd : decode (mC y) pc = .ok (.ifCond .ne off, 3)) (hw : wf3 L S M) (h : match (generalizing := false) S with | .inl a :: S => (icm .ne a 0 → K t L S M) ∧ (¬ icm .ne a 0 → k L S M) | _ => False) (hk : ∀ L' S' M', wf3 L' S' M' → k L' S' M' → AtW base adC cI D l lim y p e R s m args below meth c Z n0 s0 (pc + 3) L' S' M') (hK : ∀ pc' L' S' M', wf3 L' S' M' → K pc' L' S' M' → AtW base adC cI D l lim y p e R s m args below meth c Z n0 s0 pc' L' S' M') : AtW base adC cI D l lim y p e R s m args below meth c Z n0 s0 pc L S M := by
  intro H locs cells slots ls hR hS h1 h2 h3 h4 hL
  obtain ⟨hx, hb, -⟩ := hC
  rcases S with _ | ⟨v | v | v | v, S⟩ <;> try exact h.elim
  have hu : inR v := wf_hd hw
  refine lv_if_ne (tgt := t) hx hb hd ht (fun q => ?_) (fun q => ?_)
  · exact hK _ _ _ _ (wf_tl hw) (h.1 (fun z => q (((i32_eq hu in_0).mpr z).trans i32_0))) H locs cells slots ls hR hS h1 h2 h3 h4 hL
  · exact hk _ _ _ (wf_tl hw) (h.2 (fun z => z ((i32_eq hu in_0).mp (q.trans i32_0.symm)))) H locs cells slots ls hR hS h1 h2 h3 h4 hL
theorem s_icmp_lt {off : Int} {t : Nat} (ht : (pc : Int) + off = (t : Int)) (hC : CX base adC adV cI D ce y d p R s m args meth c) (hd : decode (mC y) pc = .ok (.if_icmp .lt off, 3)) (hw : wf3 L S M) (h : match (generalizing := false) S with | .inl b :: .inl a :: S => (icm .lt a b → K t L S M) ∧ (¬ icm .lt a b → k L S M) | _ => False) (hk : ∀ L' S' M', wf3 L' S' M' → k L' S' M' → AtW base adC cI D l lim y p e R s m args below meth c Z n0 s0 (pc + 3) L' S' M') (hK : ∀ pc' L' S' M', wf3 L' S' M' → K pc' L' S' M' → AtW base adC cI D l lim y p e R s m args below meth c Z n0 s0 pc' L' S' M') : AtW base adC cI D l lim y p e R s m args below meth c Z n0 s0 pc L S M := by
  intro H locs cells slots ls hR hS h1 h2 h3 h4 hL
  obtain ⟨hx, hb, -⟩ := hC
  rcases S with _ | ⟨v | v | v | v, S⟩ <;> try exact h.elim
  rcases S with _ | ⟨w | w | w | w, S⟩ <;> try exact h.elim
  have hv : inR v := wf_hd hw
  have hu : inR w := wf_hd (wf_tl hw)
  refine lv_icmp_lt (tgt := t) hx hb hd ht (fun q => ?_) (fun q => ?_)
  · exact hK _ _ _ _ (wf_tl (wf_tl hw)) (h.1 ((i32_lt hu hv).mp q)) H locs cells slots ls hR hS h1 h2 h3 h4 hL
  · exact hk _ _ _ (wf_tl (wf_tl hw)) (h.2 (fun z => q ((i32_lt hu hv).mpr z))) H locs cells slots ls hR hS h1 h2 h3 h4 hL
theorem s_if_lt {off : Int} {t : Nat} (ht : (pc : Int) + off = (t : Int)) (hC : CX base adC adV cI D ce y d p R s m args meth c) (hd : decode (mC y) pc = .ok (.ifCond .lt off, 3)) (hw : wf3 L S M) (h : match (generalizing := false) S with | .inl a :: S => (icm .lt a 0 → K t L S M) ∧ (¬ icm .lt a 0 → k L S M) | _ => False) (hk : ∀ L' S' M', wf3 L' S' M' → k L' S' M' → AtW base adC cI D l lim y p e R s m args below meth c Z n0 s0 (pc + 3) L' S' M') (hK : ∀ pc' L' S' M', wf3 L' S' M' → K pc' L' S' M' → AtW base adC cI D l lim y p e R s m args below meth c Z n0 s0 pc' L' S' M') : AtW base adC cI D l lim y p e R s m args below meth c Z n0 s0 pc L S M := by
  intro H locs cells slots ls hR hS h1 h2 h3 h4 hL
  obtain ⟨hx, hb, -⟩ := hC
  rcases S with _ | ⟨v | v | v | v, S⟩ <;> try exact h.elim
  have hu : inR v := wf_hd hw
  refine lv_if_lt (tgt := t) hx hb hd ht (fun q => ?_) (fun q => ?_)
  · exact hK _ _ _ _ (wf_tl hw) (h.1 ((i32_lt hu in_0).mp (by rw [i32_0]; exact q))) H locs cells slots ls hR hS h1 h2 h3 h4 hL
  · exact hk _ _ _ (wf_tl hw) (h.2 (fun z => q (by rw [← i32_0]; exact (i32_lt hu in_0).mpr z))) H locs cells slots ls hR hS h1 h2 h3 h4 hL
theorem s_icmp_ge {off : Int} {t : Nat} (ht : (pc : Int) + off = (t : Int)) (hC : CX base adC adV cI D ce y d p R s m args meth c) (hd : decode (mC y) pc = .ok (.if_icmp .ge off, 3)) (hw : wf3 L S M) (h : match (generalizing := false) S with | .inl b :: .inl a :: S => (icm .ge a b → K t L S M) ∧ (¬ icm .ge a b → k L S M) | _ => False) (hk : ∀ L' S' M', wf3 L' S' M' → k L' S' M' → AtW base adC cI D l lim y p e R s m args below meth c Z n0 s0 (pc + 3) L' S' M') (hK : ∀ pc' L' S' M', wf3 L' S' M' → K pc' L' S' M' → AtW base adC cI D l lim y p e R s m args below meth c Z n0 s0 pc' L' S' M') : AtW base adC cI D l lim y p e R s m args below meth c Z n0 s0 pc L S M := by
  intro H locs cells slots ls hR hS h1 h2 h3 h4 hL
  obtain ⟨hx, hb, -⟩ := hC
  rcases S with _ | ⟨v | v | v | v, S⟩ <;> try exact h.elim
  rcases S with _ | ⟨w | w | w | w, S⟩ <;> try exact h.elim
  have hv : inR v := wf_hd hw
  have hu : inR w := wf_hd (wf_tl hw)
  refine lv_icmp_ge (tgt := t) hx hb hd ht (fun q => ?_) (fun q => ?_)
  · exact hK _ _ _ _ (wf_tl (wf_tl hw)) (h.1 ((i32_le hv hu).mp q)) H locs cells slots ls hR hS h1 h2 h3 h4 hL
  · exact hk _ _ _ (wf_tl (wf_tl hw)) (h.2 (fun z => q ((i32_le hv hu).mpr z))) H locs cells slots ls hR hS h1 h2 h3 h4 hL
theorem s_if_ge {off : Int} {t : Nat} (ht : (pc : Int) + off = (t : Int)) (hC : CX base adC adV cI D ce y d p R s m args meth c) (hd : decode (mC y) pc = .ok (.ifCond .ge off, 3)) (hw : wf3 L S M) (h : match (generalizing := false) S with | .inl a :: S => (icm .ge a 0 → K t L S M) ∧ (¬ icm .ge a 0 → k L S M) | _ => False) (hk : ∀ L' S' M', wf3 L' S' M' → k L' S' M' → AtW base adC cI D l lim y p e R s m args below meth c Z n0 s0 (pc + 3) L' S' M') (hK : ∀ pc' L' S' M', wf3 L' S' M' → K pc' L' S' M' → AtW base adC cI D l lim y p e R s m args below meth c Z n0 s0 pc' L' S' M') : AtW base adC cI D l lim y p e R s m args below meth c Z n0 s0 pc L S M := by
  intro H locs cells slots ls hR hS h1 h2 h3 h4 hL
  obtain ⟨hx, hb, -⟩ := hC
  rcases S with _ | ⟨v | v | v | v, S⟩ <;> try exact h.elim
  have hu : inR v := wf_hd hw
  refine lv_if_ge (tgt := t) hx hb hd ht (fun q => ?_) (fun q => ?_)
  · exact hK _ _ _ _ (wf_tl hw) (h.1 ((i32_le in_0 hu).mp (by rw [i32_0]; exact q))) H locs cells slots ls hR hS h1 h2 h3 h4 hL
  · exact hk _ _ _ (wf_tl hw) (h.2 (fun z => q (by rw [← i32_0]; exact (i32_le in_0 hu).mpr z))) H locs cells slots ls hR hS h1 h2 h3 h4 hL
theorem s_icmp_gt {off : Int} {t : Nat} (ht : (pc : Int) + off = (t : Int)) (hC : CX base adC adV cI D ce y d p R s m args meth c) (hd : decode (mC y) pc = .ok (.if_icmp .gt off, 3)) (hw : wf3 L S M) (h : match (generalizing := false) S with | .inl b :: .inl a :: S => (icm .gt a b → K t L S M) ∧ (¬ icm .gt a b → k L S M) | _ => False) (hk : ∀ L' S' M', wf3 L' S' M' → k L' S' M' → AtW base adC cI D l lim y p e R s m args below meth c Z n0 s0 (pc + 3) L' S' M') (hK : ∀ pc' L' S' M', wf3 L' S' M' → K pc' L' S' M' → AtW base adC cI D l lim y p e R s m args below meth c Z n0 s0 pc' L' S' M') : AtW base adC cI D l lim y p e R s m args below meth c Z n0 s0 pc L S M := by
  intro H locs cells slots ls hR hS h1 h2 h3 h4 hL
  obtain ⟨hx, hb, -⟩ := hC
  rcases S with _ | ⟨v | v | v | v, S⟩ <;> try exact h.elim
  rcases S with _ | ⟨w | w | w | w, S⟩ <;> try exact h.elim
  have hv : inR v := wf_hd hw
  have hu : inR w := wf_hd (wf_tl hw)
  refine lv_icmp_gt (tgt := t) hx hb hd ht (fun q => ?_) (fun q => ?_)
  · exact hK _ _ _ _ (wf_tl (wf_tl hw)) (h.1 ((i32_lt hv hu).mp q)) H locs cells slots ls hR hS h1 h2 h3 h4 hL
  · exact hk _ _ _ (wf_tl (wf_tl hw)) (h.2 (fun z => q ((i32_lt hv hu).mpr z))) H locs cells slots ls hR hS h1 h2 h3 h4 hL
theorem s_if_gt {off : Int} {t : Nat} (ht : (pc : Int) + off = (t : Int)) (hC : CX base adC adV cI D ce y d p R s m args meth c) (hd : decode (mC y) pc = .ok (.ifCond .gt off, 3)) (hw : wf3 L S M) (h : match (generalizing := false) S with | .inl a :: S => (icm .gt a 0 → K t L S M) ∧ (¬ icm .gt a 0 → k L S M) | _ => False) (hk : ∀ L' S' M', wf3 L' S' M' → k L' S' M' → AtW base adC cI D l lim y p e R s m args below meth c Z n0 s0 (pc + 3) L' S' M') (hK : ∀ pc' L' S' M', wf3 L' S' M' → K pc' L' S' M' → AtW base adC cI D l lim y p e R s m args below meth c Z n0 s0 pc' L' S' M') : AtW base adC cI D l lim y p e R s m args below meth c Z n0 s0 pc L S M := by
  intro H locs cells slots ls hR hS h1 h2 h3 h4 hL
  obtain ⟨hx, hb, -⟩ := hC
  rcases S with _ | ⟨v | v | v | v, S⟩ <;> try exact h.elim
  have hu : inR v := wf_hd hw
  refine lv_if_gt (tgt := t) hx hb hd ht (fun q => ?_) (fun q => ?_)
  · exact hK _ _ _ _ (wf_tl hw) (h.1 ((i32_lt in_0 hu).mp (by rw [i32_0]; exact q))) H locs cells slots ls hR hS h1 h2 h3 h4 hL
  · exact hk _ _ _ (wf_tl hw) (h.2 (fun z => q (by rw [← i32_0]; exact (i32_lt in_0 hu).mpr z))) H locs cells slots ls hR hS h1 h2 h3 h4 hL
theorem s_icmp_le {off : Int} {t : Nat} (ht : (pc : Int) + off = (t : Int)) (hC : CX base adC adV cI D ce y d p R s m args meth c) (hd : decode (mC y) pc = .ok (.if_icmp .le off, 3)) (hw : wf3 L S M) (h : match (generalizing := false) S with | .inl b :: .inl a :: S => (icm .le a b → K t L S M) ∧ (¬ icm .le a b → k L S M) | _ => False) (hk : ∀ L' S' M', wf3 L' S' M' → k L' S' M' → AtW base adC cI D l lim y p e R s m args below meth c Z n0 s0 (pc + 3) L' S' M') (hK : ∀ pc' L' S' M', wf3 L' S' M' → K pc' L' S' M' → AtW base adC cI D l lim y p e R s m args below meth c Z n0 s0 pc' L' S' M') : AtW base adC cI D l lim y p e R s m args below meth c Z n0 s0 pc L S M := by
  intro H locs cells slots ls hR hS h1 h2 h3 h4 hL
  obtain ⟨hx, hb, -⟩ := hC
  rcases S with _ | ⟨v | v | v | v, S⟩ <;> try exact h.elim
  rcases S with _ | ⟨w | w | w | w, S⟩ <;> try exact h.elim
  have hv : inR v := wf_hd hw
  have hu : inR w := wf_hd (wf_tl hw)
  refine lv_icmp_le (tgt := t) hx hb hd ht (fun q => ?_) (fun q => ?_)
  · exact hK _ _ _ _ (wf_tl (wf_tl hw)) (h.1 ((i32_le hu hv).mp q)) H locs cells slots ls hR hS h1 h2 h3 h4 hL
  · exact hk _ _ _ (wf_tl (wf_tl hw)) (h.2 (fun z => q ((i32_le hu hv).mpr z))) H locs cells slots ls hR hS h1 h2 h3 h4 hL
theorem s_if_le {off : Int} {t : Nat} (ht : (pc : Int) + off = (t : Int)) (hC : CX base adC adV cI D ce y d p R s m args meth c) (hd : decode (mC y) pc = .ok (.ifCond .le off, 3)) (hw : wf3 L S M) (h : match (generalizing := false) S with | .inl a :: S => (icm .le a 0 → K t L S M) ∧ (¬ icm .le a 0 → k L S M) | _ => False) (hk : ∀ L' S' M', wf3 L' S' M' → k L' S' M' → AtW base adC cI D l lim y p e R s m args below meth c Z n0 s0 (pc + 3) L' S' M') (hK : ∀ pc' L' S' M', wf3 L' S' M' → K pc' L' S' M' → AtW base adC cI D l lim y p e R s m args below meth c Z n0 s0 pc' L' S' M') : AtW base adC cI D l lim y p e R s m args below meth c Z n0 s0 pc L S M := by
  intro H locs cells slots ls hR hS h1 h2 h3 h4 hL
  obtain ⟨hx, hb, -⟩ := hC
  rcases S with _ | ⟨v | v | v | v, S⟩ <;> try exact h.elim
  have hu : inR v := wf_hd hw
  refine lv_if_le (tgt := t) hx hb hd ht (fun q => ?_) (fun q => ?_)
  · exact hK _ _ _ _ (wf_tl hw) (h.1 ((i32_le hu in_0).mp (by rw [i32_0]; exact q))) H locs cells slots ls hR hS h1 h2 h3 h4 hL
  · exact hk _ _ _ (wf_tl hw) (h.2 (fun z => q (by rw [← i32_0]; exact (i32_le hu in_0).mpr z))) H locs cells slots ls hR hS h1 h2 h3 h4 hL
theorem s_goto {off : Int} {t : Nat} (ht : (pc : Int) + off = (t : Int)) (hC : CX base adC adV cI D ce y d p R s m args meth c) (hd : decode (mC y) pc = .ok (.goto off, 3)) (hw : wf3 L S M) (h : K t L S M)  (hK : ∀ pc' L' S' M', wf3 L' S' M' → K pc' L' S' M' → AtW base adC cI D l lim y p e R s m args below meth c Z n0 s0 pc' L' S' M') : AtW base adC cI D l lim y p e R s m args below meth c Z n0 s0 pc L S M := by
  intro H locs cells slots ls hR hS h1 h2 h3 h4 hL
  obtain ⟨hx, hb, -⟩ := hC
  exact lv_goto (tgt := t) hx hb hd ht (hK _ _ _ _ hw h H locs cells slots ls hR hS h1 h2 h3 h4 hL)
theorem s_switch {df lo hi : Int} {offs : Array Int} {t n : Nat} (ht : (pc : Int) + df = (t : Int)) (hoffs : offs.all (fun o => decide (0 ≤ (pc : Int) + o)) = true) (hsz : hi - lo + 1 = offs.size) (hC : CX base adC adV cI D ce y d p R s m args meth c) (hd : decode (mC y) pc = .ok (.tableswitch df lo hi offs, n)) (hw : wf3 L S M) (h : match (generalizing := false) S with | .inl x :: S => (x < lo ∨ hi < x → K t L S M) ∧ (∀ (j : Nat) (off : Int), offs[j]? = some off → x = lo + j → x ≤ hi → K (pc + off).toNat L S M) | _ => False)  (hK : ∀ pc' L' S' M', wf3 L' S' M' → K pc' L' S' M' → AtW base adC cI D l lim y p e R s m args below meth c Z n0 s0 pc' L' S' M') : AtW base adC cI D l lim y p e R s m args below meth c Z n0 s0 pc L S M := by
  intro H locs cells slots ls hR hS h1 h2 h3 h4 hL
  obtain ⟨hx, hb, -⟩ := hC
  rcases S with _ | ⟨v | v | v | v, S⟩ <;> try exact h.elim
  have hu : inR v := wf_hd hw
  by_cases hq : v < lo ∨ hi < v
  · exact lv_tableOut (tgt := t) hx hb hd (by rw [i32_in hu]; exact hq) ht (hK _ _ _ _ (wf_tl hw) (h.1 hq) H locs cells slots ls hR hS h1 h2 h3 h4 hL)
  · have hlo : lo ≤ v := by omega
    have hhi : v ≤ hi := by omega
    have hj : (v - lo).toNat < offs.size := by omega
    have ho : offs[(v - lo).toNat]? = some offs[(v - lo).toNat] := Array.getElem?_eq_getElem hj
    have hp := Array.all_eq_true.mp hoffs _ hj
    simp only [decide_eq_true_eq] at hp
    exact lv_tableIn (tgt := (pc + offs[(v - lo).toNat]).toNat) hx hb hd (by rw [i32_in hu]; omega) (by rw [i32_in hu]; omega) (by rw [i32_in hu]; exact ho) (by omega) (hK _ _ _ _ (wf_tl hw) (h.2 _ _ ho (by omega) hhi) H locs cells slots ls hR hS h1 h2 h3 h4 hL)
end ST2
