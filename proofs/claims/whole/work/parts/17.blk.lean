/-! A BLOCK OF INSTRUCTIONS -/
section ST8
variable {base : Nat} {adC adV : Nat → Nat} {cI : ClassId} {D : va_G} {ce : Cx} {l : Launch} {lim : Nat × Nat} {y d : Nat} {p : Program} {e : Env} {R : Room} {s : State} {m : MethodId} {args : Array Value} {below : List Frame} {meth : Method} {c : Code} {Z : State → Prop} {n0 s0 : Nat} {pc : Nat} {L S : List Vx} {M : Mx} {k : Kx} {K : Nat → Kx} {Q : Qx}
theorem dec_inv {cc : ByteArray} {nL : Nat} {i : Ix} (h : decB cc nL pc i = true) : ∃ n, decode cc pc = .ok (i.1, n) ∧ (n = ilen i.1 ∨ isSw i.1 = true) ∧ argB pc i = true ∧ locB nL i.1 = true := by
  unfold decB at h
  rcases hd : decode cc pc with er | ⟨j, n⟩
  · rw [hd] at h; cases h
  · rw [hd] at h
    simp only [Bool.and_eq_true, Bool.or_eq_true, decide_eq_true_eq] at h
    obtain ⟨⟨⟨rfl, h2⟩, h3⟩, h4⟩ := h
    exact ⟨n, rfl, h2, h3, h4⟩
set_option maxHeartbeats 4000000 in
theorem s_one {i : Ix} (hC : CX base adC adV cI D ce y d p R s m args meth c) (hlim : lim = (n0 + R.cells, s0 + R.slots)) (hret : ∀ (r : Option Vx) (M' : Mx) (H' : Heap) (locs' : List Loc) (cells' slots' pc' : Nat) (ls' : Array Slot), Q r M' → wfM M' → (∀ v, r = some v → wfV v) → RS base adC cI D M' H' → va_S (oA base) s.heap H' locs' → n0 + cells' = M'.1 → s0 + slots' = M'.2.1 → M'.1 ≤ lim.1 → M'.2.1 ≤ lim.2 → rtI y r pc' → W p l e R s m args below meth c H' locs' cells' slots' Z (F0 m pc' ls' (r.toList.map (cv base adC))))
    (hdec : decB (mC y) (mL y) pc i = true) (hlk : lnk y i) (hw : wf3 L S M) (h : wp1 ce (cD base adC adV cI D ce l lim d) clsN lim nF Q K i k L S M)
    (hk : ∀ L' S' M', wf3 L' S' M' → k L' S' M' → AtW base adC cI D l lim y p e R s m args below meth c Z n0 s0 (pc + ilen i.1) L' S' M') (hK : ∀ pc' L' S' M', wf3 L' S' M' → K pc' L' S' M' → AtW base adC cI D l lim y p e R s m args below meth c Z n0 s0 pc' L' S' M') : AtW base adC cI D l lim y p e R s m args below meth c Z n0 s0 pc L S M := by
  obtain ⟨n, hd, hn, ha, hlo⟩ := dec_inv hdec
  obtain ⟨ins, a, b, z⟩ := i
  change decode (mC y) pc = .ok (ins, n) at hd
  change n = ilen ins ∨ isSw ins = true at hn
  change locB (mL y) ins = true at hlo
  cases ins <;> try exact h.elim
  case aload j =>
    obtain rfl : n = _ := hn.resolve_right Bool.false_ne_true
    exact s_load hC hd hw h (Or.inr (Or.inr (Or.inr (Or.inr (Or.inl ⟨rfl, rfl, rfl⟩))))) hk
  case aload_n j =>
    obtain rfl : n = _ := hn.resolve_right Bool.false_ne_true
    exact s_load hC hd hw h (Or.inr (Or.inr (Or.inr (Or.inr (Or.inr ⟨rfl, rfl, j, rfl, rfl⟩))))) hk
  case astore j =>
    obtain rfl : n = _ := hn.resolve_right Bool.false_ne_true
    exact s_store hC hd hw h (Or.inr (Or.inr (Or.inr (Or.inr (Or.inl ⟨rfl, rfl, rfl⟩))))) hlo hk
  case astore_n j =>
    obtain rfl : n = _ := hn.resolve_right Bool.false_ne_true
    exact s_store hC hd hw h (Or.inr (Or.inr (Or.inr (Or.inr (Or.inr ⟨rfl, rfl, j, rfl, rfl⟩))))) hlo hk
  case iload j =>
    obtain rfl : n = _ := hn.resolve_right Bool.false_ne_true
    exact s_load hC hd hw h (Or.inl ⟨rfl, rfl, rfl⟩) hk
  case iload_n j =>
    obtain rfl : n = _ := hn.resolve_right Bool.false_ne_true
    exact s_load hC hd hw h (Or.inr (Or.inl ⟨rfl, rfl, j, rfl, rfl⟩)) hk
  case istore j =>
    obtain rfl : n = _ := hn.resolve_right Bool.false_ne_true
    exact s_store hC hd hw h (Or.inl ⟨rfl, rfl, rfl⟩) hlo hk
  case istore_n j =>
    obtain rfl : n = _ := hn.resolve_right Bool.false_ne_true
    exact s_store hC hd hw h (Or.inr (Or.inl ⟨rfl, rfl, j, rfl, rfl⟩)) hlo hk
  case lload j =>
    obtain rfl : n = _ := hn.resolve_right Bool.false_ne_true
    exact s_load hC hd hw h (Or.inr (Or.inr (Or.inl ⟨rfl, rfl, rfl⟩))) hk
  case lload_n j =>
    obtain rfl : n = _ := hn.resolve_right Bool.false_ne_true
    exact s_load hC hd hw h (Or.inr (Or.inr (Or.inr (Or.inl ⟨rfl, rfl, j, rfl, rfl⟩)))) hk
  case lstore j =>
    obtain rfl : n = _ := hn.resolve_right Bool.false_ne_true
    exact s_store hC hd hw h (Or.inr (Or.inr (Or.inl ⟨rfl, rfl, rfl⟩))) hlo hk
  case lstore_n j =>
    obtain rfl : n = _ := hn.resolve_right Bool.false_ne_true
    exact s_store hC hd hw h (Or.inr (Or.inr (Or.inr (Or.inl ⟨rfl, rfl, j, rfl, rfl⟩)))) hlo hk
  case iconst v =>
    obtain rfl : n = _ := hn.resolve_right Bool.false_ne_true
    simp only [argB, Bool.and_eq_true, decide_eq_true_eq] at ha
    obtain ⟨⟨rfl, h1⟩, h2⟩ := ha
    exact s_iconst (by unfold inR; omega) hC hd hw h hk
  case bipush v =>
    obtain rfl : n = _ := hn.resolve_right Bool.false_ne_true
    simp only [argB, Bool.and_eq_true, decide_eq_true_eq] at ha
    obtain ⟨⟨rfl, h1⟩, h2⟩ := ha
    exact s_bipush ⟨h1, h2⟩ hC hd hw h hk
  case sipush v =>
    obtain rfl : n = _ := hn.resolve_right Bool.false_ne_true
    simp only [argB, Bool.and_eq_true, decide_eq_true_eq] at ha
    obtain ⟨⟨rfl, h1⟩, h2⟩ := ha
    exact s_sipush ⟨h1, h2⟩ hC hd hw h hk
  case ldc idx =>
    obtain rfl : n = _ := hn.resolve_right Bool.false_ne_true
    rcases a with _ | _ | a
    · exact s_ldc0 hlk hC hd hw h hk
    · exact s_ldc1 hlk hC hd hw h hk
    · exact h.elim
  case ldc2_w idx =>
    obtain rfl : n = _ := hn.resolve_right Bool.false_ne_true
    exact s_ldc2 hlk hC hd hw h hk
  case iinc j v =>
    obtain rfl : n = _ := hn.resolve_right Bool.false_ne_true
    simp only [argB, decide_eq_true_eq] at ha
    subst ha
    simp only [locB, decide_eq_true_eq] at hlo
    refine s_iinc hlo hC hd hw ?_ hk
    obtain ⟨h1, h2⟩ := h
    refine ⟨h1, ?_⟩
    unfold gI
    rcases hg : gl L j with x | x | x | x <;> rw [hg] at h2 <;> exact h2
  case iadd  =>
    obtain rfl : n = _ := hn.resolve_right Bool.false_ne_true
    exact s_iadd hC hd hw h hk
  case isub  =>
    obtain rfl : n = _ := hn.resolve_right Bool.false_ne_true
    exact s_isub hC hd hw h hk
  case imul  =>
    obtain rfl : n = _ := hn.resolve_right Bool.false_ne_true
    exact s_imul hC hd hw h hk
  case idiv  =>
    obtain rfl : n = _ := hn.resolve_right Bool.false_ne_true
    exact s_idiv hC hd hw h hk
  case irem  =>
    obtain rfl : n = _ := hn.resolve_right Bool.false_ne_true
    exact s_irem hC hd hw h hk
  case ineg  =>
    obtain rfl : n = _ := hn.resolve_right Bool.false_ne_true
    exact s_ineg hC hd hw h hk
  case iand  =>
    obtain rfl : n = _ := hn.resolve_right Bool.false_ne_true
    exact s_iand hC hd hw h hk
  case ladd  =>
    obtain rfl : n = _ := hn.resolve_right Bool.false_ne_true
    exact s_ladd hC hd hw h hk
  case lmul  =>
    obtain rfl : n = _ := hn.resolve_right Bool.false_ne_true
    exact s_lmul hC hd hw h hk
  case ldiv  =>
    obtain rfl : n = _ := hn.resolve_right Bool.false_ne_true
    exact s_ldiv hC hd hw h hk
  case lrem  =>
    obtain rfl : n = _ := hn.resolve_right Bool.false_ne_true
    exact s_lrem hC hd hw h hk
  case lcmp  =>
    obtain rfl : n = _ := hn.resolve_right Bool.false_ne_true
    exact s_lcmp hC hd hw h hk
  case i2l  =>
    obtain rfl : n = _ := hn.resolve_right Bool.false_ne_true
    exact s_i2l hC hd hw h hk
  case l2i  =>
    obtain rfl : n = _ := hn.resolve_right Bool.false_ne_true
    exact s_l2i hC hd hw h hk
  case dup  =>
    obtain rfl : n = _ := hn.resolve_right Bool.false_ne_true
    exact s_dup hC hd hw h hk
  case dup2  =>
    obtain rfl : n = _ := hn.resolve_right Bool.false_ne_true
    exact s_dup2 hC hd hw h hk
  case pop  =>
    obtain rfl : n = _ := hn.resolve_right Bool.false_ne_true
    exact s_pop hC hd hw h hk
  case ifCond cn off =>
    obtain rfl : n = _ := hn.resolve_right Bool.false_ne_true
    simp only [argB, decide_eq_true_eq] at ha
    cases cn
    · exact s_if_eq ha hC hd hw h hk hK
    · exact s_if_ne ha hC hd hw h hk hK
    · exact s_if_lt ha hC hd hw h hk hK
    · exact s_if_ge ha hC hd hw h hk hK
    · exact s_if_gt ha hC hd hw h hk hK
    · exact s_if_le ha hC hd hw h hk hK
  case if_icmp cn off =>
    obtain rfl : n = _ := hn.resolve_right Bool.false_ne_true
    simp only [argB, decide_eq_true_eq] at ha
    cases cn
    · exact s_icmp_eq ha hC hd hw h hk hK
    · exact s_icmp_ne ha hC hd hw h hk hK
    · exact s_icmp_lt ha hC hd hw h hk hK
    · exact s_icmp_ge ha hC hd hw h hk hK
    · exact s_icmp_gt ha hC hd hw h hk hK
    · exact s_icmp_le ha hC hd hw h hk hK
  case goto off =>
    obtain rfl : n = _ := hn.resolve_right Bool.false_ne_true
    simp only [argB, decide_eq_true_eq] at ha
    exact s_goto ha hC hd hw h hK
  case tableswitch df lo hi offs =>
    simp only [argB, Bool.and_eq_true, decide_eq_true_eq] at ha
    obtain ⟨⟨⟨h1, rfl⟩, h3⟩, h4⟩ := ha
    exact s_switch h1 h3 h4 hC hd hw h hK
  case getfield idx =>
    obtain rfl : n = _ := hn.resolve_right Bool.false_ne_true
    exact s_getf hlk hC hd hw h hk
  case putfield idx =>
    obtain rfl : n = _ := hn.resolve_right Bool.false_ne_true
    rcases S with _ | ⟨v, S⟩
    · exact h.elim
    rcases S with _ | ⟨w | w | w | w, S⟩ <;> try (exact h.elim)
    change oG _ _ _ at h
    obtain ⟨h0, h⟩ := oG_inv h
    by_cases z0 : z = 0
    · subst z0
      rcases v with v | v | v | v <;> try exact h.elim
      exact s_putf0 hlk hC hd hw (by show oG _ _ _; rw [h0]; exact ⟨rfl, h⟩) hk
    by_cases z2 : z = 2
    · subst z2
      rcases v with v | v | v | v <;> try exact h.elim
      exact s_putf2 hlk hC hd hw (by show oG _ _ _; rw [h0]; exact ⟨rfl, h⟩) hk
    by_cases z1 : z = 1
    · subst z1
      rcases v with v | v | v | v <;> try exact h.elim
      exact s_putf1 hlk hC hd hw (by show oG _ _ _; rw [h0]; exact ⟨rfl, h⟩) hk
    split at h <;> first | exact absurd rfl z0 | exact absurd rfl z2 | exact absurd rfl z1 | exact h.elim
  case getstatic idx =>
    obtain rfl : n = _ := hn.resolve_right Bool.false_ne_true
    exact s_getst hlk hC hd hw h hk
  case iaload  =>
    obtain rfl : n = _ := hn.resolve_right Bool.false_ne_true
    exact s_iald hC hd hw h hk
  case iastore  =>
    obtain rfl : n = _ := hn.resolve_right Bool.false_ne_true
    exact s_iast hC hd hw h hk
  case arraylength  =>
    obtain rfl : n = _ := hn.resolve_right Bool.false_ne_true
    exact s_alen hC hd hw h hk
  case newarray ty =>
    obtain rfl : n = _ := hn.resolve_right Bool.false_ne_true
    cases ty <;> try exact h.elim
    exact s_newa hlim hlk hC hd hw h hk
  case new idx =>
    obtain rfl : n = _ := hn.resolve_right Bool.false_ne_true
    exact s_new hlim hlk hC hd hw h hk
  case invokevirtual idx =>
    obtain rfl : n = _ := hn.resolve_right Bool.false_ne_true
    have h : wCall _ _ _ 1 a b k L S M := h
    by_cases hy : a < 1000
    · rw [wc_v hy] at h
      have hlk : if a < 1000 then _ else _ := hlk
      rw [if_pos hy] at hlk
      rcases d with _ | d
      · exfalso
        rcases hp : pops b S [] with _ | ⟨q, S'⟩ <;> rw [hp] at h
        · exact h
        · rcases q with _ | ⟨v | v | v | v, q⟩ <;> first | exact h.elim | exact h.2.2.elim
      · exact s_callV hlk hd hC hlim rfl hw h hk
    · have hlk : if a < 1000 then _ else _ := hlk
      rw [if_neg hy] at hlk
      obtain ⟨rfl, hlk2⟩ := hlk
      exact s_char hlim hlk2 hC hd hw h hk
  case invokespecial idx =>
    obtain rfl : n = _ := hn.resolve_right Bool.false_ne_true
    have h : wCall _ _ _ 2 a b k L S M := h
    by_cases hy : a < 1000
    · rw [wc_i hy] at h
      have hlk : if a < 1000 then _ else _ := hlk
      rw [if_pos hy] at hlk
      rcases d with _ | d
      · exfalso
        rcases hp : pops b S [] with _ | ⟨q, S'⟩ <;> rw [hp] at h
        · exact h
        · rcases q with _ | ⟨v | v | v | v, q⟩ <;> first | exact h.elim | exact h.2.elim
      · exact s_callI hlk hd hC hlim rfl hw h hk
    · have hlk : if a < 1000 then _ else _ := hlk
      rw [if_neg hy] at hlk
      obtain ⟨rfl, hlk2⟩ := hlk
      exact s_obj hlk2 hC hd hw h hk
  case invokestatic idx =>
    obtain rfl : n = _ := hn.resolve_right Bool.false_ne_true
    have h : wCall _ _ _ 0 a b k L S M := h
    by_cases hy : a < 1000
    · rw [wc_s hy] at h
      have hlk : if a < 1000 then _ else _ := hlk
      rw [if_pos hy] at hlk
      rcases d with _ | d
      · exfalso
        rcases hp : pops b S [] with _ | ⟨q, S'⟩ <;> rw [hp] at h
        · exact h
        · exact h.2.elim
      · exact s_callS hlk hd hC hlim rfl hw h hk
    · have hlk : if a < 1000 then _ else _ := hlk
      rw [if_neg hy] at hlk
      rcases hlk with ⟨rfl, hlk2⟩ | ⟨rfl, hlk2⟩ | ⟨rfl, hlk2⟩ | ⟨rfl, hlk2⟩
      · exact s_copy hlk2 hC hd hw h hk
      · exact s_min hlim hlk2 hC hd hw h hk
      · exact s_max hlim hlk2 hC hd hw h hk
      · exact s_abs hlim hlk2 hC hd hw h hk
  case ireturn  =>
    obtain rfl : n = _ := hn.resolve_right Bool.false_ne_true
    intro H locs cells slots ls hR hS h1 h2 h3 h4 hL
    rcases S with _ | ⟨v | v | v | v, _ | ⟨w, S⟩⟩ <;> try exact h.elim
    obtain ⟨hb, h⟩ := h
    refine hret (some (vi v)) M H locs cells slots pc ls h hw.1 (fun w hw' => by cases hw'; exact wf_hd hw) hR hS h1 h2 h3 h4 ⟨hd, ?_⟩
    rcases hlk with ⟨rfl, h⟩ | ⟨rfl, h⟩
    · exact Or.inl h
    · exact Or.inr ⟨h, hb rfl⟩
  case lreturn  =>
    obtain rfl : n = _ := hn.resolve_right Bool.false_ne_true
    intro H locs cells slots ls hR hS h1 h2 h3 h4 hL
    rcases S with _ | ⟨v | v | v | v, _ | ⟨w, S⟩⟩ <;> try exact h.elim
    exact hret (some (vl v)) M H locs cells slots pc ls h hw.1 (fun w hw' => by cases hw'; exact wf_hd hw) hR hS h1 h2 h3 h4 ⟨hd, hlk⟩
  case areturn  =>
    obtain rfl : n = _ := hn.resolve_right Bool.false_ne_true
    intro H locs cells slots ls hR hS h1 h2 h3 h4 hL
    rcases S with _ | ⟨v | v | v | v, _ | ⟨w, S⟩⟩ <;> try exact h.elim
    exact hret (some (vr v)) M H locs cells slots pc ls h hw.1 (fun w hw' => by cases hw'; exact wf_hd hw) hR hS h1 h2 h3 h4 ⟨hd, hlk⟩
  case return_  =>
    obtain rfl : n = _ := hn.resolve_right Bool.false_ne_true
    intro H locs cells slots ls hR hS h1 h2 h3 h4 hL
    rcases S with _ | ⟨v, S⟩ <;> try exact h.elim
    exact hret none M H locs cells slots pc ls h hw.1 (fun w hw' => by cases hw') hR hS h1 h2 h3 h4 ⟨hd, hlk⟩
theorem s_blk (hC : CX base adC adV cI D ce y d p R s m args meth c) (hlim : lim = (n0 + R.cells, s0 + R.slots)) (hret : ∀ (r : Option Vx) (M' : Mx) (H' : Heap) (locs' : List Loc) (cells' slots' pc' : Nat) (ls' : Array Slot), Q r M' → wfM M' → (∀ v, r = some v → wfV v) → RS base adC cI D M' H' → va_S (oA base) s.heap H' locs' → n0 + cells' = M'.1 → s0 + slots' = M'.2.1 → M'.1 ≤ lim.1 → M'.2.1 ≤ lim.2 → rtI y r pc' → W p l e R s m args below meth c H' locs' cells' slots' Z (F0 m pc' ls' (r.toList.map (cv base adC))))
    (hK : ∀ pc' L' S' M', wf3 L' S' M' → K pc' L' S' M' → AtW base adC cI D l lim y p e R s m args below meth c Z n0 s0 pc' L' S' M') : ∀ (is : List Ix) (nx pc : Nat) (L S : List Vx) (M : Mx), decL (mC y) (mL y) pc is nx = true → lnkL y is → wf3 L S M → wpB ce (cD base adC adV cI D ce l lim d) clsN lim nF Q K is nx L S M → AtW base adC cI D l lim y p e R s m args below meth c Z n0 s0 pc L S M
  | [], nx, pc, L, S, M, hd, _, hw, h => by
    have : pc = nx := by simpa [decL] using hd
    subst this
    exact hK _ _ _ _ hw h
  | i :: is, nx, pc, L, S, M, hd, hl, hw, h => by
    simp only [decL, Bool.and_eq_true] at hd
    exact s_one hC hlim hret hd.1 hl.1 hw h (fun L' S' M' hw' h' => s_blk hC hlim hret hK is nx _ L' S' M' hd.2 hl.2 hw' h') hK
theorem T_blk {is : List Ix} {nx : Nat} (hok : BlkOK y pc is nx) (h : wpB ce (cD base adC adV cI D ce l lim d) clsN lim nF Q (fun pc' L S M => Tq base adC adV cI D ce l d lim y pc' L S M Q) is nx L S M) : Tq base adC adV cI D ce l d lim y pc L S M Q := by
  intro hm hL hS p e R s m args below meth c Z n0 s0 hC hlim hret H locs cells slots ls
  exact s_blk hC hlim hret (fun pc' L' S' M' hw' h' => h' hw'.1 hw'.2.1 hw'.2.2 p e R s m args below meth c Z n0 s0 hC hlim hret) is nx pc L S M hok.1 hok.2 ⟨hm, hL, hS⟩ h H locs cells slots ls
end ST8
