/-! THE PURE MACHINE'S RULES AGAIN, with nothing bound: a block is run once -/
section FAST
variable {ce : Cx} {call : CLx} {cls : Nat → Option Nat} {lim : Nat × Nat} {nf : Nat → Nat} {Q : Qx} {K : Nat → Kx} {is : List Ix} {nx : Nat} {L S : List Vx} {M : Mx} {t : Nat × Nat × Int}
def vI (v : Vx) : Int := match v with
  | .inl x => x
  | _ => 0
def vJ (v : Vx) : Int := match v with
  | .inr (.inl x) => x
  | _ => 0
def isI (v : Vx) : Bool := match v with
  | .inl _ => true
  | _ => false
def isR (v : Vx) : Bool := match v with
  | .inr (.inr (.inl _)) => true
  | .inr (.inr (.inr (_ + 1))) => true
  | _ => false
def aN (o : Option (Int ⊕ Nat)) : Int := match o with
  | some (.inl n) => n
  | _ => 0
def isA (o : Option (Int ⊕ Nat)) : Bool := match o with
  | some (.inl _) => true
  | _ => false
theorem vI_i {x : Int} : vI (.inl x) = x := rfl
theorem vJ_l {x : Int} : vJ (.inr (.inl x)) = x := rfl
theorem isI_i {x : Int} : isI (.inl x) = true := rfl
theorem isR_r {q : Nat} : isR (.inr (.inr (.inl q))) = true := rfl
theorem isR_c {q : Nat} : isR (.inr (.inr (.inr (q + 1)))) = true := rfl
theorem aN_s {n : Int} : aN (some (.inl n)) = n := rfl
theorem isA_s {n : Int} : isA (some (.inl n)) = true := rfl
theorem gI_v {v : Vx} {f : Int → Prop} : gI v f = (isI v = true ∧ f (vI v)) := by
  unfold gI isI vI; rcases v with x | x | x | x <;> simp
theorem gJ_v {v : Vx} {f : Int → Prop} : gJ v f = (isL v = true ∧ f (vJ v)) := by
  unfold gJ vJ; rcases v with x | x | x | x
  · simp [isL_i]
  · simp [isL_l]
  · simp [isL_r]
  · simp [isL_r]
theorem gR_v {v : Vx} {f : Vx → Prop} : gR v f = (isR v = true ∧ f v) := by
  unfold gR isR; rcases v with x | x | x | x
  · simp
  · simp
  · simp
  · cases x <;> simp
theorem aG_v {o : Option (Int ⊕ Nat)} {f : Int → Prop} : aG o f = (isA o = true ∧ f (aN o)) := by
  unfold aG isA aN; rcases o with _ | x | x <;> simp
theorem v_aload0 : wpB ce call cls lim nf Q K ((.aload_n 0, t) :: is) nx L S M = (isR (gl L 0) = true ∧ wpB ce call cls lim nf Q K is nx L (gl L 0 :: S) M) := w_aload0.trans gR_v
theorem v_iload0 : wpB ce call cls lim nf Q K ((.iload_n 0, t) :: is) nx L S M = (isI (gl L 0) = true ∧ wpB ce call cls lim nf Q K is nx L (.inl (vI (gl L 0)) :: S) M) := w_iload0.trans gI_v
theorem v_lload0 : wpB ce call cls lim nf Q K ((.lload_n 0, t) :: is) nx L S M = (isL (gl L 0) = true ∧ wpB ce call cls lim nf Q K is nx L (.inr (.inl (vJ (gl L 0))) :: S) M) := w_lload0.trans gJ_v
theorem v_aload1 : wpB ce call cls lim nf Q K ((.aload_n 1, t) :: is) nx L S M = (isR (gl L 1) = true ∧ wpB ce call cls lim nf Q K is nx L (gl L 1 :: S) M) := w_aload1.trans gR_v
theorem v_iload1 : wpB ce call cls lim nf Q K ((.iload_n 1, t) :: is) nx L S M = (isI (gl L 1) = true ∧ wpB ce call cls lim nf Q K is nx L (.inl (vI (gl L 1)) :: S) M) := w_iload1.trans gI_v
theorem v_lload1 : wpB ce call cls lim nf Q K ((.lload_n 1, t) :: is) nx L S M = (isL (gl L 1) = true ∧ wpB ce call cls lim nf Q K is nx L (.inr (.inl (vJ (gl L 1))) :: S) M) := w_lload1.trans gJ_v
theorem v_aload2 : wpB ce call cls lim nf Q K ((.aload_n 2, t) :: is) nx L S M = (isR (gl L 2) = true ∧ wpB ce call cls lim nf Q K is nx L (gl L 2 :: S) M) := w_aload2.trans gR_v
theorem v_iload2 : wpB ce call cls lim nf Q K ((.iload_n 2, t) :: is) nx L S M = (isI (gl L 2) = true ∧ wpB ce call cls lim nf Q K is nx L (.inl (vI (gl L 2)) :: S) M) := w_iload2.trans gI_v
theorem v_lload2 : wpB ce call cls lim nf Q K ((.lload_n 2, t) :: is) nx L S M = (isL (gl L 2) = true ∧ wpB ce call cls lim nf Q K is nx L (.inr (.inl (vJ (gl L 2))) :: S) M) := w_lload2.trans gJ_v
theorem v_aload3 : wpB ce call cls lim nf Q K ((.aload_n 3, t) :: is) nx L S M = (isR (gl L 3) = true ∧ wpB ce call cls lim nf Q K is nx L (gl L 3 :: S) M) := w_aload3.trans gR_v
theorem v_iload3 : wpB ce call cls lim nf Q K ((.iload_n 3, t) :: is) nx L S M = (isI (gl L 3) = true ∧ wpB ce call cls lim nf Q K is nx L (.inl (vI (gl L 3)) :: S) M) := w_iload3.trans gI_v
theorem v_lload3 : wpB ce call cls lim nf Q K ((.lload_n 3, t) :: is) nx L S M = (isL (gl L 3) = true ∧ wpB ce call cls lim nf Q K is nx L (.inr (.inl (vJ (gl L 3))) :: S) M) := w_lload3.trans gJ_v
theorem v_aload {j : Nat} : wpB ce call cls lim nf Q K ((.aload j, t) :: is) nx L S M = (isR (gl L j) = true ∧ wpB ce call cls lim nf Q K is nx L (gl L j :: S) M) := w_aload.trans gR_v
theorem v_iload {j : Nat} : wpB ce call cls lim nf Q K ((.iload j, t) :: is) nx L S M = (isI (gl L j) = true ∧ wpB ce call cls lim nf Q K is nx L (.inl (vI (gl L j)) :: S) M) := w_iload.trans gI_v
theorem v_lload {j : Nat} : wpB ce call cls lim nf Q K ((.lload j, t) :: is) nx L S M = (isL (gl L j) = true ∧ wpB ce call cls lim nf Q K is nx L (.inr (.inl (vJ (gl L j))) :: S) M) := w_lload.trans gJ_v
theorem v_iinc {n z : Int} {j a b : Nat} : wpB ce call cls lim nf Q K ((.iinc j n, a, b, z) :: is) nx L S M = (okS L j = true ∧ isI (gl L j) = true ∧ wpB ce call cls lim nf Q K is nx (sl L j (.inl (wr (vI (gl L j) + z)))) S M) := by
  rw [w_iinc, gI_v]
theorem v_iald {i : Int} {q : Nat} : wpB ce call cls lim nf Q K ((.iaload, t) :: is) nx L (.inl i :: .inr (.inr (.inl q)) :: S) M = (isA (M.2.2.1 q) = true ∧ (0 ≤ i ∧ i < aN (M.2.2.1 q)) ∧ wpB ce call cls lim nf Q K is nx L (.inl (M.2.2.2.2 q i) :: S) M) := w_iald.trans aG_v
theorem v_iast {i x : Int} {q : Nat} : wpB ce call cls lim nf Q K ((.iastore, t) :: is) nx L (.inl x :: .inl i :: .inr (.inr (.inl q)) :: S) M = (isA (M.2.2.1 q) = true ∧ (0 ≤ i ∧ i < aN (M.2.2.1 q)) ∧ wpB ce call cls lim nf Q K is nx L S (M.1, M.2.1, M.2.2.1, M.2.2.2.1, st M.2.2.2.2 q i x)) := w_iast.trans aG_v
theorem vc_copy {k : Kx} {n dp sp : Int} {q q0 c : Nat} : wCall ce call cls 0 1000 c k L (.inl n :: .inl dp :: .inr (.inr (.inl q)) :: .inl sp :: .inr (.inr (.inl q0)) :: S) M = (szS S ≤ 8 ∧ isA (M.2.2.1 q) = true ∧ isA (M.2.2.1 q0) = true ∧ (q ≠ q0 ∧ 0 ≤ sp ∧ 0 ≤ dp ∧ 0 ≤ n ∧ sp + n ≤ aN (M.2.2.1 q0) ∧ dp + n ≤ aN (M.2.2.1 q)) ∧ k L S (M.1, M.2.1, M.2.2.1, M.2.2.2.1, cpy M.2.2.2.2 (M.2.2.2.2 q0) sp q dp n)) := by
  rw [wc_copy, aG_v, aG_v]
end FAST
section FASTU
variable {ce : Cx} {call : CLx} {cls : Nat → Option Nat} {lim : Nat × Nat} {nf : Nat → Nat} {Q : Qx} {K : Nat → Kx} {is : List Ix} {nx : Nat} {L S : List Vx} {M : Mx} {t : Nat × Nat × Int}
theorem u_nil : wpB ce call cls lim nf Q K [] nx L S M = K nx L S M := (w_nil).trans (Eq.refl _)
theorem u_astore0 {q : Nat} : wpB ce call cls lim nf Q K ((.astore_n 0, t) :: is) nx L (.inr (.inr (.inl q)) :: S) M = (okS L 0 = true ∧ wpB ce call cls lim nf Q K is nx (sl L 0 (.inr (.inr (.inl q)))) S M) := (w_astore0).trans (Eq.refl _)
theorem u_astorec0 {q : Nat} : wpB ce call cls lim nf Q K ((.astore_n 0, t) :: is) nx L (.inr (.inr (.inr (q + 1))) :: S) M = (okS L 0 = true ∧ wpB ce call cls lim nf Q K is nx (sl L 0 (.inr (.inr (.inr (q + 1))))) S M) := (w_astorec0).trans (Eq.refl _)
theorem u_istore0 {x : Int} : wpB ce call cls lim nf Q K ((.istore_n 0, t) :: is) nx L (.inl x :: S) M = (okS L 0 = true ∧ wpB ce call cls lim nf Q K is nx (sl L 0 (.inl x)) S M) := (w_istore0).trans (Eq.refl _)
theorem u_lstore0 {x : Int} : wpB ce call cls lim nf Q K ((.lstore_n 0, t) :: is) nx L (.inr (.inl x) :: S) M = (okS L 0 = true ∧ wpB ce call cls lim nf Q K is nx (sl (sl L 0 (.inr (.inl x))) (0 + 1) (.inr (.inr (.inr 0)))) S M) := (w_lstore0).trans (Eq.refl _)
theorem u_astore1 {q : Nat} : wpB ce call cls lim nf Q K ((.astore_n 1, t) :: is) nx L (.inr (.inr (.inl q)) :: S) M = (okS L 1 = true ∧ wpB ce call cls lim nf Q K is nx (sl L 1 (.inr (.inr (.inl q)))) S M) := (w_astore1).trans (Eq.refl _)
theorem u_astorec1 {q : Nat} : wpB ce call cls lim nf Q K ((.astore_n 1, t) :: is) nx L (.inr (.inr (.inr (q + 1))) :: S) M = (okS L 1 = true ∧ wpB ce call cls lim nf Q K is nx (sl L 1 (.inr (.inr (.inr (q + 1))))) S M) := (w_astorec1).trans (Eq.refl _)
theorem u_istore1 {x : Int} : wpB ce call cls lim nf Q K ((.istore_n 1, t) :: is) nx L (.inl x :: S) M = (okS L 1 = true ∧ wpB ce call cls lim nf Q K is nx (sl L 1 (.inl x)) S M) := (w_istore1).trans (Eq.refl _)
theorem u_lstore1 {x : Int} : wpB ce call cls lim nf Q K ((.lstore_n 1, t) :: is) nx L (.inr (.inl x) :: S) M = (okS L 1 = true ∧ wpB ce call cls lim nf Q K is nx (sl (sl L 1 (.inr (.inl x))) (1 + 1) (.inr (.inr (.inr 0)))) S M) := (w_lstore1).trans (Eq.refl _)
theorem u_astore2 {q : Nat} : wpB ce call cls lim nf Q K ((.astore_n 2, t) :: is) nx L (.inr (.inr (.inl q)) :: S) M = (okS L 2 = true ∧ wpB ce call cls lim nf Q K is nx (sl L 2 (.inr (.inr (.inl q)))) S M) := (w_astore2).trans (Eq.refl _)
theorem u_astorec2 {q : Nat} : wpB ce call cls lim nf Q K ((.astore_n 2, t) :: is) nx L (.inr (.inr (.inr (q + 1))) :: S) M = (okS L 2 = true ∧ wpB ce call cls lim nf Q K is nx (sl L 2 (.inr (.inr (.inr (q + 1))))) S M) := (w_astorec2).trans (Eq.refl _)
theorem u_istore2 {x : Int} : wpB ce call cls lim nf Q K ((.istore_n 2, t) :: is) nx L (.inl x :: S) M = (okS L 2 = true ∧ wpB ce call cls lim nf Q K is nx (sl L 2 (.inl x)) S M) := (w_istore2).trans (Eq.refl _)
theorem u_lstore2 {x : Int} : wpB ce call cls lim nf Q K ((.lstore_n 2, t) :: is) nx L (.inr (.inl x) :: S) M = (okS L 2 = true ∧ wpB ce call cls lim nf Q K is nx (sl (sl L 2 (.inr (.inl x))) (2 + 1) (.inr (.inr (.inr 0)))) S M) := (w_lstore2).trans (Eq.refl _)
theorem u_astore3 {q : Nat} : wpB ce call cls lim nf Q K ((.astore_n 3, t) :: is) nx L (.inr (.inr (.inl q)) :: S) M = (okS L 3 = true ∧ wpB ce call cls lim nf Q K is nx (sl L 3 (.inr (.inr (.inl q)))) S M) := (w_astore3).trans (Eq.refl _)
theorem u_astorec3 {q : Nat} : wpB ce call cls lim nf Q K ((.astore_n 3, t) :: is) nx L (.inr (.inr (.inr (q + 1))) :: S) M = (okS L 3 = true ∧ wpB ce call cls lim nf Q K is nx (sl L 3 (.inr (.inr (.inr (q + 1))))) S M) := (w_astorec3).trans (Eq.refl _)
theorem u_istore3 {x : Int} : wpB ce call cls lim nf Q K ((.istore_n 3, t) :: is) nx L (.inl x :: S) M = (okS L 3 = true ∧ wpB ce call cls lim nf Q K is nx (sl L 3 (.inl x)) S M) := (w_istore3).trans (Eq.refl _)
theorem u_lstore3 {x : Int} : wpB ce call cls lim nf Q K ((.lstore_n 3, t) :: is) nx L (.inr (.inl x) :: S) M = (okS L 3 = true ∧ wpB ce call cls lim nf Q K is nx (sl (sl L 3 (.inr (.inl x))) (3 + 1) (.inr (.inr (.inr 0)))) S M) := (w_lstore3).trans (Eq.refl _)
theorem u_astore {q j : Nat} : wpB ce call cls lim nf Q K ((.astore j, t) :: is) nx L (.inr (.inr (.inl q)) :: S) M = (okS L j = true ∧ wpB ce call cls lim nf Q K is nx (sl L j (.inr (.inr (.inl q)))) S M) := (w_astore).trans (Eq.refl _)
theorem u_istore {x : Int} {j : Nat} : wpB ce call cls lim nf Q K ((.istore j, t) :: is) nx L (.inl x :: S) M = (okS L j = true ∧ wpB ce call cls lim nf Q K is nx (sl L j (.inl x)) S M) := (w_istore).trans (Eq.refl _)
theorem u_lstore {x : Int} {j : Nat} : wpB ce call cls lim nf Q K ((.lstore j, t) :: is) nx L (.inr (.inl x) :: S) M = (okS L j = true ∧ wpB ce call cls lim nf Q K is nx (sl (sl L j (.inr (.inl x))) (j + 1) (.inr (.inr (.inr 0)))) S M) := (w_lstore).trans (Eq.refl _)
theorem u_iconst {n z : Int} {a b : Nat} : wpB ce call cls lim nf Q K ((.iconst n, a, b, z) :: is) nx L S M = wpB ce call cls lim nf Q K is nx L (.inl z :: S) M := (w_iconst).trans (Eq.refl _)
theorem u_bipush {n z : Int} {a b : Nat} : wpB ce call cls lim nf Q K ((.bipush n, a, b, z) :: is) nx L S M = wpB ce call cls lim nf Q K is nx L (.inl z :: S) M := (w_bipush).trans (Eq.refl _)
theorem u_sipush {n z : Int} {a b : Nat} : wpB ce call cls lim nf Q K ((.sipush n, a, b, z) :: is) nx L S M = wpB ce call cls lim nf Q K is nx L (.inl z :: S) M := (w_sipush).trans (Eq.refl _)
theorem u_ldc {z : Int} {n b : Nat} : wpB ce call cls lim nf Q K ((.ldc n, 0, b, z) :: is) nx L S M = wpB ce call cls lim nf Q K is nx L (.inl z :: S) M := (w_ldc).trans (Eq.refl _)
theorem u_ldcs {z : Int} {n b : Nat} : wpB ce call cls lim nf Q K ((.ldc n, 1, b, z) :: is) nx L S M = wpB ce call cls lim nf Q K is nx L (.inr (.inr (.inr b)) :: S) M := (w_ldcs).trans (Eq.refl _)
theorem u_ldc2 {z : Int} {n a b : Nat} : wpB ce call cls lim nf Q K ((.ldc2_w n, a, b, z) :: is) nx L S M = wpB ce call cls lim nf Q K is nx L (.inr (.inl z) :: S) M := (w_ldc2).trans (Eq.refl _)
theorem u_iadd {a b : Int} : wpB ce call cls lim nf Q K ((.iadd, t) :: is) nx L (.inl b :: .inl a :: S) M = wpB ce call cls lim nf Q K is nx L (.inl (wr (a + b)) :: S) M := (w_iadd).trans (Eq.refl _)
theorem u_isub {a b : Int} : wpB ce call cls lim nf Q K ((.isub, t) :: is) nx L (.inl b :: .inl a :: S) M = wpB ce call cls lim nf Q K is nx L (.inl (wr (a - b)) :: S) M := (w_isub).trans (Eq.refl _)
theorem u_imul {a b : Int} : wpB ce call cls lim nf Q K ((.imul, t) :: is) nx L (.inl b :: .inl a :: S) M = wpB ce call cls lim nf Q K is nx L (.inl (wr (a * b)) :: S) M := (w_imul).trans (Eq.refl _)
theorem u_iand {a b : Int} : wpB ce call cls lim nf Q K ((.iand, t) :: is) nx L (.inl b :: .inl a :: S) M = wpB ce call cls lim nf Q K is nx L (.inl (ian a b) :: S) M := (w_iand).trans (Eq.refl _)
theorem u_idiv {a b : Int} : wpB ce call cls lim nf Q K ((.idiv, t) :: is) nx L (.inl b :: .inl a :: S) M = (b ≠ 0 ∧ wpB ce call cls lim nf Q K is nx L (.inl (wr (a.tdiv b)) :: S) M) := (w_idiv).trans (Eq.refl _)
theorem u_irem {a b : Int} : wpB ce call cls lim nf Q K ((.irem, t) :: is) nx L (.inl b :: .inl a :: S) M = (b ≠ 0 ∧ wpB ce call cls lim nf Q K is nx L (.inl (a.tmod b) :: S) M) := (w_irem).trans (Eq.refl _)
theorem u_ineg {a : Int} : wpB ce call cls lim nf Q K ((.ineg, t) :: is) nx L (.inl a :: S) M = wpB ce call cls lim nf Q K is nx L (.inl (wr (-a)) :: S) M := (w_ineg).trans (Eq.refl _)
theorem u_ladd {a b : Int} : wpB ce call cls lim nf Q K ((.ladd, t) :: is) nx L (.inr (.inl b) :: .inr (.inl a) :: S) M = wpB ce call cls lim nf Q K is nx L (.inr (.inl (wrl (a + b))) :: S) M := (w_ladd).trans (Eq.refl _)
theorem u_lmul {a b : Int} : wpB ce call cls lim nf Q K ((.lmul, t) :: is) nx L (.inr (.inl b) :: .inr (.inl a) :: S) M = wpB ce call cls lim nf Q K is nx L (.inr (.inl (wrl (a * b))) :: S) M := (w_lmul).trans (Eq.refl _)
theorem u_ldiv {a b : Int} : wpB ce call cls lim nf Q K ((.ldiv, t) :: is) nx L (.inr (.inl b) :: .inr (.inl a) :: S) M = (b ≠ 0 ∧ wpB ce call cls lim nf Q K is nx L (.inr (.inl (wrl (a.tdiv b))) :: S) M) := (w_ldiv).trans (Eq.refl _)
theorem u_lrem {a b : Int} : wpB ce call cls lim nf Q K ((.lrem, t) :: is) nx L (.inr (.inl b) :: .inr (.inl a) :: S) M = (b ≠ 0 ∧ wpB ce call cls lim nf Q K is nx L (.inr (.inl (a.tmod b)) :: S) M) := (w_lrem).trans (Eq.refl _)
theorem u_lcmp {a b : Int} : wpB ce call cls lim nf Q K ((.lcmp, t) :: is) nx L (.inr (.inl b) :: .inr (.inl a) :: S) M = wpB ce call cls lim nf Q K is nx L (.inl (lcm a b) :: S) M := (w_lcmp).trans (Eq.refl _)
theorem u_i2l {a : Int} : wpB ce call cls lim nf Q K ((.i2l, t) :: is) nx L (.inl a :: S) M = wpB ce call cls lim nf Q K is nx L (.inr (.inl a) :: S) M := (w_i2l).trans (Eq.refl _)
theorem u_l2i {a : Int} : wpB ce call cls lim nf Q K ((.l2i, t) :: is) nx L (.inr (.inl a) :: S) M = wpB ce call cls lim nf Q K is nx L (.inl (wr a) :: S) M := (w_l2i).trans (Eq.refl _)
theorem u_dup {v : Vx} : wpB ce call cls lim nf Q K ((.dup, t) :: is) nx L (v :: S) M = (szV v = 1 ∧ wpB ce call cls lim nf Q K is nx L (v :: v :: S) M) := (w_dup).trans (Eq.refl _)
theorem u_dup2 {v w : Vx} : wpB ce call cls lim nf Q K ((.dup2, t) :: is) nx L (v :: w :: S) M = ((szV v = 1 ∧ szV w = 1) ∧ wpB ce call cls lim nf Q K is nx L (v :: w :: v :: w :: S) M) := (w_dup2).trans (Eq.refl _)
theorem u_pop {v : Vx} : wpB ce call cls lim nf Q K ((.pop, t) :: is) nx L (v :: S) M = (szV v = 1 ∧ wpB ce call cls lim nf Q K is nx L S M) := (w_pop).trans (Eq.refl _)
theorem u_if {c : ClassFile.Cond} {n x : Int} {a : Nat} {b : Nat × Int} : wpB ce call cls lim nf Q K ((.ifCond c n, a, b) :: is) nx L (.inl x :: S) M = ((icm c x 0 → K a L S M) ∧ (¬ icm c x 0 → wpB ce call cls lim nf Q K is nx L S M)) := (w_if).trans (Eq.refl _)
theorem u_icmp {c : ClassFile.Cond} {n x y : Int} {a : Nat} {b : Nat × Int} : wpB ce call cls lim nf Q K ((.if_icmp c n, a, b) :: is) nx L (.inl y :: .inl x :: S) M = ((icm c x y → K a L S M) ∧ (¬ icm c x y → wpB ce call cls lim nf Q K is nx L S M)) := (w_icmp).trans (Eq.refl _)
theorem u_goto {n : Int} {a : Nat} {b : Nat × Int} : wpB ce call cls lim nf Q K ((.goto n, a, b) :: is) nx L S M = K a L S M := (w_goto).trans (Eq.refl _)
theorem u_switch {d lo hi x z : Int} {offs : Array Int} {a b : Nat} : wpB ce call cls lim nf Q K ((.tableswitch d lo hi offs, a, b, z) :: is) nx L (.inl x :: S) M = ((x < lo ∨ hi < x → K a L S M) ∧ (∀ (j : Nat) (off : Int), offs[j]? = some off → x = lo + j → x ≤ hi → K (b + off).toNat L S M)) := (w_switch).trans (Eq.refl _)
theorem u_getf0 {n ci j q : Nat} : wpB ce call cls lim nf Q K ((.getfield n, ci, j, 0) :: is) nx L (.inr (.inr (.inl q)) :: S) M = oG (M.2.2.1 q) ci (wpB ce call cls lim nf Q K is nx L (.inl (M.2.2.2.2 q j) :: S) M) := (w_getf0).trans (Eq.refl _)
theorem u_getf2 {n ci j q : Nat} : wpB ce call cls lim nf Q K ((.getfield n, ci, j, 2) :: is) nx L (.inr (.inr (.inl q)) :: S) M = oG (M.2.2.1 q) ci (wpB ce call cls lim nf Q K is nx L (.inl (M.2.2.2.2 q j) :: S) M) := (w_getf2).trans (Eq.refl _)
theorem u_getf1 {n ci j q : Nat} : wpB ce call cls lim nf Q K ((.getfield n, ci, j, 1) :: is) nx L (.inr (.inr (.inl q)) :: S) M = oG (M.2.2.1 q) ci (wpB ce call cls lim nf Q K is nx L (M.2.2.2.1 q j :: S) M) := (w_getf1).trans (Eq.refl _)
theorem u_putf0 {n ci j q : Nat} {x : Int} : wpB ce call cls lim nf Q K ((.putfield n, ci, j, 0) :: is) nx L (.inl x :: .inr (.inr (.inl q)) :: S) M = oG (M.2.2.1 q) ci (wpB ce call cls lim nf Q K is nx L S (M.1, M.2.1, M.2.2.1, M.2.2.2.1, st M.2.2.2.2 q j x)) := (w_putf0).trans (Eq.refl _)
theorem u_putf2 {n ci j q : Nat} {x : Int} : wpB ce call cls lim nf Q K ((.putfield n, ci, j, 2) :: is) nx L (.inl x :: .inr (.inr (.inl q)) :: S) M = oG (M.2.2.1 q) ci ((x = 0 ∨ x = 1) ∧ wpB ce call cls lim nf Q K is nx L S (M.1, M.2.1, M.2.2.1, M.2.2.2.1, st M.2.2.2.2 q j x)) := (w_putf2).trans (Eq.refl _)
theorem u_putf1 {n ci j q q2 : Nat} : wpB ce call cls lim nf Q K ((.putfield n, ci, j, 1) :: is) nx L (.inr (.inr (.inl q2)) :: .inr (.inr (.inl q)) :: S) M = oG (M.2.2.1 q) ci (wpB ce call cls lim nf Q K is nx L S (M.1, M.2.1, M.2.2.1, rst M.2.2.2.1 q j (.inr (.inr (.inl q2))), M.2.2.2.2)) := (w_putf1).trans (Eq.refl _)
theorem u_getst {n j : Nat} {b : Nat × Int} : wpB ce call cls lim nf Q K ((.getstatic n, j, b) :: is) nx L S M = wpB ce call cls lim nf Q K is nx L (.inr (.inr (.inr j)) :: S) M := (w_getst).trans (Eq.refl _)
theorem u_ialdc {i : Int} {j : Nat} : wpB ce call cls lim nf Q K ((.iaload, t) :: is) nx L (.inl i :: .inr (.inr (.inr j)) :: S) M = ((0 ≤ i ∧ i < (ce j).1 ∧ 0 < j ∧ j < 7) ∧ wpB ce call cls lim nf Q K is nx L (.inl ((ce j).2 i) :: S) M) := (w_ialdc).trans (Eq.refl _)
theorem u_alen {j : Nat} : wpB ce call cls lim nf Q K ((.arraylength, t) :: is) nx L (.inr (.inr (.inr j)) :: S) M = ((0 < j ∧ j < 7) ∧ wpB ce call cls lim nf Q K is nx L (.inl (ce j).1 :: S) M) := (w_alen).trans (Eq.refl _)
theorem u_newa {n : Int} : wpB ce call cls lim nf Q K ((.newarray .int, t) :: is) nx L (.inl n :: S) M = ((0 ≤ n ∧ n < 100000000 ∧ M.1 + 1 ≤ lim.1 ∧ M.2.1 + n.toNat ≤ lim.2) ∧ wpB ce call cls lim nf Q K is nx L (.inr (.inr (.inl M.1)) :: S) (M.1 + 1, M.2.1 + n.toNat, shs M.2.2.1 M.1 (.inl n), rstz M.2.2.2.1 M.1, stz M.2.2.2.2 M.1)) := (w_newa).trans (Eq.refl _)
theorem u_new {n ci : Nat} {b : Nat × Int} : wpB ce call cls lim nf Q K ((.new n, ci, b) :: is) nx L S M = ((M.1 + 1 ≤ lim.1 ∧ M.2.1 + nf ci ≤ lim.2) ∧ wpB ce call cls lim nf Q K is nx L (.inr (.inr (.inl M.1)) :: S) (M.1 + 1, M.2.1 + nf ci, shs M.2.2.1 M.1 (.inr ci), rstz M.2.2.2.1 M.1, stz M.2.2.2.2 M.1)) := (w_new).trans (Eq.refl _)
theorem u_virt {n y c : Nat} {b : Int} : wpB ce call cls lim nf Q K ((.invokevirtual n, y, c, b) :: is) nx L S M = wCall ce call cls 1 y c (wpB ce call cls lim nf Q K is nx) L S M := (w_virt).trans (Eq.refl _)
theorem u_spec {n y c : Nat} {b : Int} : wpB ce call cls lim nf Q K ((.invokespecial n, y, c, b) :: is) nx L S M = wCall ce call cls 2 y c (wpB ce call cls lim nf Q K is nx) L S M := (w_spec).trans (Eq.refl _)
theorem u_stat {n y c : Nat} {b : Int} : wpB ce call cls lim nf Q K ((.invokestatic n, y, c, b) :: is) nx L S M = wCall ce call cls 0 y c (wpB ce call cls lim nf Q K is nx) L S M := (w_stat).trans (Eq.refl _)
theorem u_lret {a : Int} : wpB ce call cls lim nf Q K ((.lreturn, t) :: is) nx L [.inr (.inl a)] M = Q (some (.inr (.inl a))) M := (w_lret).trans (Eq.refl _)
theorem u_aret {a : Nat} : wpB ce call cls lim nf Q K ((.areturn, t) :: is) nx L [.inr (.inr (.inl a))] M = Q (some (.inr (.inr (.inl a)))) M := (w_aret).trans (Eq.refl _)
theorem u_vret : wpB ce call cls lim nf Q K ((.return_, t) :: is) nx L [] M = Q none M := (w_vret).trans (Eq.refl _)
end FASTU
section FASTV
variable {ce : Cx} {call : CLx} {cls : Nat → Option Nat} {k : Kx} {L S : List Vx} {M : Mx} {y n : Nat}
theorem uc_copyc {n dp sp : Int} {q j c : Nat} : wCall ce call cls 0 1000 c k L (.inl n :: .inl dp :: .inr (.inr (.inl q)) :: .inl sp :: .inr (.inr (.inr j)) :: S) M = (szS S ≤ 8 ∧ aG (M.2.2.1 q) fun len => (0 ≤ sp ∧ 0 ≤ dp ∧ 0 ≤ n ∧ sp + n ≤ (ce j).1 ∧ dp + n ≤ len ∧ 0 < j ∧ j < 7) ∧ k L S (M.1, M.2.1, M.2.2.1, M.2.2.2.1, cpy M.2.2.2.2 ((ce j).2) sp q dp n)) := (wc_copyc).trans (Eq.refl _)
theorem uc_min {a b : Int} {c : Nat} : wCall ce call cls 0 1001 c k L (.inl b :: .inl a :: S) M = (szS S ≤ 8 ∧ k L (.inl (min a b) :: S) M) := (wc_min).trans (Eq.refl _)
theorem uc_max {a b : Int} {c : Nat} : wCall ce call cls 0 1002 c k L (.inl b :: .inl a :: S) M = (szS S ≤ 8 ∧ k L (.inl (max a b) :: S) M) := (wc_max).trans (Eq.refl _)
theorem uc_abs {a : Int} {c : Nat} : wCall ce call cls 0 1003 c k L (.inl a :: S) M = (szS S ≤ 8 ∧ k L (.inl (iab a) :: S) M) := (wc_abs).trans (Eq.refl _)
theorem uc_char {i : Int} {j c : Nat} : wCall ce call cls 1 1004 c k L (.inl i :: .inr (.inr (.inr j)) :: S) M = (szS S ≤ 8 ∧ ((7 ≤ j ∧ j < 9) ∧ 0 ≤ i ∧ i < (ce j).1) ∧ k L (.inl ((ce j).2 i) :: S) M) := (wc_char).trans (Eq.refl _)
theorem uc_obj {q c : Nat} : wCall ce call cls 2 1005 c k L (.inr (.inr (.inl q)) :: S) M = (szS S ≤ 8 ∧ k L S M) := (wc_obj).trans (Eq.refl _)
end FASTV
