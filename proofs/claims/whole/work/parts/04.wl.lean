section WL
variable {ce : Cx} {call : CLx} {cls : Nat → Option Nat} {lim : Nat × Nat} {nf : Nat → Nat} {Q : Qx} {K : Nat → Kx} {is : List Ix} {nx : Nat} {L S : List Vx} {M : Mx} {t : Nat × Nat × Int}
def gI (v : Vx) (f : Int → Prop) : Prop := match v with
  | .inl x => f x
  | _ => False
def gJ (v : Vx) (f : Int → Prop) : Prop := match v with
  | .inr (.inl x) => f x
  | _ => False
def gR (v : Vx) (f : Vx → Prop) : Prop := match v with
  | .inr (.inr (.inl q)) => f (.inr (.inr (.inl q)))
  | .inr (.inr (.inr (j + 1))) => f (.inr (.inr (.inr (j + 1))))
  | _ => False
theorem gI_i {x : Int} {f : Int → Prop} : gI (.inl x) f = f x := rfl
theorem gJ_l {x : Int} {f : Int → Prop} : gJ (.inr (.inl x)) f = f x := rfl
theorem gR_r {q : Nat} {f : Vx → Prop} : gR (.inr (.inr (.inl q))) f = f (.inr (.inr (.inl q))) := rfl
theorem gR_c {j : Nat} {f : Vx → Prop} : gR (.inr (.inr (.inr (j + 1)))) f = f (.inr (.inr (.inr (j + 1)))) := rfl
theorem wLd0 {k : Kx} {j : Nat} : wLd L S M k j 0 = gI (gl L j) fun x => k L (.inl x :: S) M := by
  unfold wLd gI; rcases gl L j with x | x | x | x <;> rfl
theorem wLd1 {k : Kx} {j : Nat} : wLd L S M k j 1 = gJ (gl L j) fun x => k L (.inr (.inl x) :: S) M := by
  unfold wLd gJ; rcases gl L j with x | x | x | x <;> rfl
theorem wLd2 {k : Kx} {j : Nat} : wLd L S M k j 2 = gR (gl L j) fun v => k L (v :: S) M := by
  unfold wLd gR; rcases gl L j with x | x | x | x
  · rfl
  · rfl
  · rfl
  · cases x <;> rfl
theorem gl_0 {v : Vx} {l : List Vx} : gl (v :: l) 0 = v := rfl
theorem gl_s {v : Vx} {l : List Vx} {k : Nat} : gl (v :: l) (k + 1) = gl l k := rfl
theorem sl_0 {w v : Vx} {l : List Vx} : sl (w :: l) 0 v = v :: l := rfl
theorem sl_s {w v : Vx} {l : List Vx} {k : Nat} : sl (w :: l) (k + 1) v = w :: sl l k v := rfl
theorem okS_0 : okS L 0 = true := rfl
theorem okS_s {k : Nat} : okS L (k + 1) = !isL (gl L k) := rfl
theorem isL_i {x : Int} : isL (.inl x) = false := rfl
theorem isL_l {x : Int} : isL (.inr (.inl x)) = true := rfl
theorem isL_r {x : Nat ⊕ Nat} : isL (.inr (.inr x)) = false := rfl
theorem szV_i {x : Int} : szV (.inl x) = 1 := rfl
theorem szV_l {x : Int} : szV (.inr (.inl x)) = 2 := rfl
theorem szV_r {x : Nat ⊕ Nat} : szV (.inr (.inr x)) = 1 := rfl
theorem szS_n : szS [] = 0 := rfl
theorem szS_c {v : Vx} : szS (v :: S) = szV v + szS S := rfl
theorem pops_0 {a : List Vx} : pops 0 S a = some (a, S) := rfl
theorem pops_s {n : Nat} {v : Vx} {a : List Vx} : pops (n + 1) (v :: S) a = pops n S (v :: a) := rfl
theorem icm_eq {a b : Int} : icm .eq a b = (a = b) := rfl
theorem icm_ne {a b : Int} : icm .ne a b = (a ≠ b) := rfl
theorem icm_lt {a b : Int} : icm .lt a b = (a < b) := rfl
theorem icm_ge {a b : Int} : icm .ge a b = (b ≤ a) := rfl
theorem icm_gt {a b : Int} : icm .gt a b = (b < a) := rfl
theorem icm_le {a b : Int} : icm .le a b = (a ≤ b) := rfl
theorem aG_s {n : Int} {f : Int → Prop} : aG (some (.inl n)) f = f n := rfl
theorem oG_s {c ci : Nat} {P : Prop} : oG (some (.inr c)) ci P = (c = ci ∧ P) := rfl
theorem w_nil : wpB ce call cls lim nf Q K [] nx L S M = K nx L S M := rfl
theorem w_aload0 : wpB ce call cls lim nf Q K ((.aload_n 0, t) :: is) nx L S M = gR (gl L 0) fun v => wpB ce call cls lim nf Q K is nx L (v :: S) M := wLd2
theorem w_astore0 {q : Nat} : wpB ce call cls lim nf Q K ((.astore_n 0, t) :: is) nx L (.inr (.inr (.inl q)) :: S) M = (okS L 0 = true ∧ wpB ce call cls lim nf Q K is nx (sl L 0 (.inr (.inr (.inl q)))) S M) := rfl
theorem w_astorec0 {q : Nat} : wpB ce call cls lim nf Q K ((.astore_n 0, t) :: is) nx L (.inr (.inr (.inr (q + 1))) :: S) M = (okS L 0 = true ∧ wpB ce call cls lim nf Q K is nx (sl L 0 (.inr (.inr (.inr (q + 1))))) S M) := rfl
theorem w_iload0 : wpB ce call cls lim nf Q K ((.iload_n 0, t) :: is) nx L S M = gI (gl L 0) fun x => wpB ce call cls lim nf Q K is nx L (.inl x :: S) M := wLd0
theorem w_istore0 {x : Int} : wpB ce call cls lim nf Q K ((.istore_n 0, t) :: is) nx L (.inl x :: S) M = (okS L 0 = true ∧ wpB ce call cls lim nf Q K is nx (sl L 0 (.inl x)) S M) := rfl
theorem w_lload0 : wpB ce call cls lim nf Q K ((.lload_n 0, t) :: is) nx L S M = gJ (gl L 0) fun x => wpB ce call cls lim nf Q K is nx L (.inr (.inl x) :: S) M := wLd1
theorem w_lstore0 {x : Int} : wpB ce call cls lim nf Q K ((.lstore_n 0, t) :: is) nx L (.inr (.inl x) :: S) M = (okS L 0 = true ∧ wpB ce call cls lim nf Q K is nx (sl (sl L 0 (.inr (.inl x))) (0 + 1) (.inr (.inr (.inr 0)))) S M) := rfl
theorem w_aload1 : wpB ce call cls lim nf Q K ((.aload_n 1, t) :: is) nx L S M = gR (gl L 1) fun v => wpB ce call cls lim nf Q K is nx L (v :: S) M := wLd2
theorem w_astore1 {q : Nat} : wpB ce call cls lim nf Q K ((.astore_n 1, t) :: is) nx L (.inr (.inr (.inl q)) :: S) M = (okS L 1 = true ∧ wpB ce call cls lim nf Q K is nx (sl L 1 (.inr (.inr (.inl q)))) S M) := rfl
theorem w_astorec1 {q : Nat} : wpB ce call cls lim nf Q K ((.astore_n 1, t) :: is) nx L (.inr (.inr (.inr (q + 1))) :: S) M = (okS L 1 = true ∧ wpB ce call cls lim nf Q K is nx (sl L 1 (.inr (.inr (.inr (q + 1))))) S M) := rfl
theorem w_iload1 : wpB ce call cls lim nf Q K ((.iload_n 1, t) :: is) nx L S M = gI (gl L 1) fun x => wpB ce call cls lim nf Q K is nx L (.inl x :: S) M := wLd0
theorem w_istore1 {x : Int} : wpB ce call cls lim nf Q K ((.istore_n 1, t) :: is) nx L (.inl x :: S) M = (okS L 1 = true ∧ wpB ce call cls lim nf Q K is nx (sl L 1 (.inl x)) S M) := rfl
theorem w_lload1 : wpB ce call cls lim nf Q K ((.lload_n 1, t) :: is) nx L S M = gJ (gl L 1) fun x => wpB ce call cls lim nf Q K is nx L (.inr (.inl x) :: S) M := wLd1
theorem w_lstore1 {x : Int} : wpB ce call cls lim nf Q K ((.lstore_n 1, t) :: is) nx L (.inr (.inl x) :: S) M = (okS L 1 = true ∧ wpB ce call cls lim nf Q K is nx (sl (sl L 1 (.inr (.inl x))) (1 + 1) (.inr (.inr (.inr 0)))) S M) := rfl
theorem w_aload2 : wpB ce call cls lim nf Q K ((.aload_n 2, t) :: is) nx L S M = gR (gl L 2) fun v => wpB ce call cls lim nf Q K is nx L (v :: S) M := wLd2
theorem w_astore2 {q : Nat} : wpB ce call cls lim nf Q K ((.astore_n 2, t) :: is) nx L (.inr (.inr (.inl q)) :: S) M = (okS L 2 = true ∧ wpB ce call cls lim nf Q K is nx (sl L 2 (.inr (.inr (.inl q)))) S M) := rfl
theorem w_astorec2 {q : Nat} : wpB ce call cls lim nf Q K ((.astore_n 2, t) :: is) nx L (.inr (.inr (.inr (q + 1))) :: S) M = (okS L 2 = true ∧ wpB ce call cls lim nf Q K is nx (sl L 2 (.inr (.inr (.inr (q + 1))))) S M) := rfl
theorem w_iload2 : wpB ce call cls lim nf Q K ((.iload_n 2, t) :: is) nx L S M = gI (gl L 2) fun x => wpB ce call cls lim nf Q K is nx L (.inl x :: S) M := wLd0
theorem w_istore2 {x : Int} : wpB ce call cls lim nf Q K ((.istore_n 2, t) :: is) nx L (.inl x :: S) M = (okS L 2 = true ∧ wpB ce call cls lim nf Q K is nx (sl L 2 (.inl x)) S M) := rfl
theorem w_lload2 : wpB ce call cls lim nf Q K ((.lload_n 2, t) :: is) nx L S M = gJ (gl L 2) fun x => wpB ce call cls lim nf Q K is nx L (.inr (.inl x) :: S) M := wLd1
theorem w_lstore2 {x : Int} : wpB ce call cls lim nf Q K ((.lstore_n 2, t) :: is) nx L (.inr (.inl x) :: S) M = (okS L 2 = true ∧ wpB ce call cls lim nf Q K is nx (sl (sl L 2 (.inr (.inl x))) (2 + 1) (.inr (.inr (.inr 0)))) S M) := rfl
theorem w_aload3 : wpB ce call cls lim nf Q K ((.aload_n 3, t) :: is) nx L S M = gR (gl L 3) fun v => wpB ce call cls lim nf Q K is nx L (v :: S) M := wLd2
theorem w_astore3 {q : Nat} : wpB ce call cls lim nf Q K ((.astore_n 3, t) :: is) nx L (.inr (.inr (.inl q)) :: S) M = (okS L 3 = true ∧ wpB ce call cls lim nf Q K is nx (sl L 3 (.inr (.inr (.inl q)))) S M) := rfl
theorem w_astorec3 {q : Nat} : wpB ce call cls lim nf Q K ((.astore_n 3, t) :: is) nx L (.inr (.inr (.inr (q + 1))) :: S) M = (okS L 3 = true ∧ wpB ce call cls lim nf Q K is nx (sl L 3 (.inr (.inr (.inr (q + 1))))) S M) := rfl
theorem w_iload3 : wpB ce call cls lim nf Q K ((.iload_n 3, t) :: is) nx L S M = gI (gl L 3) fun x => wpB ce call cls lim nf Q K is nx L (.inl x :: S) M := wLd0
theorem w_istore3 {x : Int} : wpB ce call cls lim nf Q K ((.istore_n 3, t) :: is) nx L (.inl x :: S) M = (okS L 3 = true ∧ wpB ce call cls lim nf Q K is nx (sl L 3 (.inl x)) S M) := rfl
theorem w_lload3 : wpB ce call cls lim nf Q K ((.lload_n 3, t) :: is) nx L S M = gJ (gl L 3) fun x => wpB ce call cls lim nf Q K is nx L (.inr (.inl x) :: S) M := wLd1
theorem w_lstore3 {x : Int} : wpB ce call cls lim nf Q K ((.lstore_n 3, t) :: is) nx L (.inr (.inl x) :: S) M = (okS L 3 = true ∧ wpB ce call cls lim nf Q K is nx (sl (sl L 3 (.inr (.inl x))) (3 + 1) (.inr (.inr (.inr 0)))) S M) := rfl
theorem w_aload {j : Nat} : wpB ce call cls lim nf Q K ((.aload j, t) :: is) nx L S M = gR (gl L j) fun v => wpB ce call cls lim nf Q K is nx L (v :: S) M := wLd2
theorem w_astore {q j : Nat} : wpB ce call cls lim nf Q K ((.astore j, t) :: is) nx L (.inr (.inr (.inl q)) :: S) M = (okS L j = true ∧ wpB ce call cls lim nf Q K is nx (sl L j (.inr (.inr (.inl q)))) S M) := rfl
theorem w_iload {j : Nat} : wpB ce call cls lim nf Q K ((.iload j, t) :: is) nx L S M = gI (gl L j) fun x => wpB ce call cls lim nf Q K is nx L (.inl x :: S) M := wLd0
theorem w_istore {x : Int} {j : Nat} : wpB ce call cls lim nf Q K ((.istore j, t) :: is) nx L (.inl x :: S) M = (okS L j = true ∧ wpB ce call cls lim nf Q K is nx (sl L j (.inl x)) S M) := rfl
theorem w_lload {j : Nat} : wpB ce call cls lim nf Q K ((.lload j, t) :: is) nx L S M = gJ (gl L j) fun x => wpB ce call cls lim nf Q K is nx L (.inr (.inl x) :: S) M := wLd1
theorem w_lstore {x : Int} {j : Nat} : wpB ce call cls lim nf Q K ((.lstore j, t) :: is) nx L (.inr (.inl x) :: S) M = (okS L j = true ∧ wpB ce call cls lim nf Q K is nx (sl (sl L j (.inr (.inl x))) (j + 1) (.inr (.inr (.inr 0)))) S M) := rfl
theorem w_iconst {n z : Int} {a b : Nat} : wpB ce call cls lim nf Q K ((.iconst n, a, b, z) :: is) nx L S M = wpB ce call cls lim nf Q K is nx L (.inl z :: S) M := rfl
theorem w_bipush {n z : Int} {a b : Nat} : wpB ce call cls lim nf Q K ((.bipush n, a, b, z) :: is) nx L S M = wpB ce call cls lim nf Q K is nx L (.inl z :: S) M := rfl
theorem w_sipush {n z : Int} {a b : Nat} : wpB ce call cls lim nf Q K ((.sipush n, a, b, z) :: is) nx L S M = wpB ce call cls lim nf Q K is nx L (.inl z :: S) M := rfl
theorem w_ldc {z : Int} {n b : Nat} : wpB ce call cls lim nf Q K ((.ldc n, 0, b, z) :: is) nx L S M = wpB ce call cls lim nf Q K is nx L (.inl z :: S) M := rfl
theorem w_ldcs {z : Int} {n b : Nat} : wpB ce call cls lim nf Q K ((.ldc n, 1, b, z) :: is) nx L S M = wpB ce call cls lim nf Q K is nx L (.inr (.inr (.inr b)) :: S) M := rfl
theorem w_ldc2 {z : Int} {n a b : Nat} : wpB ce call cls lim nf Q K ((.ldc2_w n, a, b, z) :: is) nx L S M = wpB ce call cls lim nf Q K is nx L (.inr (.inl z) :: S) M := rfl
theorem w_iinc {n z : Int} {j a b : Nat} : wpB ce call cls lim nf Q K ((.iinc j n, a, b, z) :: is) nx L S M = (okS L j = true ∧ gI (gl L j) fun x => wpB ce call cls lim nf Q K is nx (sl L j (.inl (wr (x + z)))) S M) := by
  show (okS L j = true ∧ _) = _
  unfold gI; rcases gl L j with x | x | x | x <;> rfl
theorem w_iadd {a b : Int} : wpB ce call cls lim nf Q K ((.iadd, t) :: is) nx L (.inl b :: .inl a :: S) M = wpB ce call cls lim nf Q K is nx L (.inl (wr (a + b)) :: S) M := rfl
theorem w_isub {a b : Int} : wpB ce call cls lim nf Q K ((.isub, t) :: is) nx L (.inl b :: .inl a :: S) M = wpB ce call cls lim nf Q K is nx L (.inl (wr (a - b)) :: S) M := rfl
theorem w_imul {a b : Int} : wpB ce call cls lim nf Q K ((.imul, t) :: is) nx L (.inl b :: .inl a :: S) M = wpB ce call cls lim nf Q K is nx L (.inl (wr (a * b)) :: S) M := rfl
theorem w_iand {a b : Int} : wpB ce call cls lim nf Q K ((.iand, t) :: is) nx L (.inl b :: .inl a :: S) M = wpB ce call cls lim nf Q K is nx L (.inl (ian a b) :: S) M := rfl
theorem w_idiv {a b : Int} : wpB ce call cls lim nf Q K ((.idiv, t) :: is) nx L (.inl b :: .inl a :: S) M = (b ≠ 0 ∧ wpB ce call cls lim nf Q K is nx L (.inl (wr (a.tdiv b)) :: S) M) := rfl
theorem w_irem {a b : Int} : wpB ce call cls lim nf Q K ((.irem, t) :: is) nx L (.inl b :: .inl a :: S) M = (b ≠ 0 ∧ wpB ce call cls lim nf Q K is nx L (.inl (a.tmod b) :: S) M) := rfl
theorem w_ineg {a : Int} : wpB ce call cls lim nf Q K ((.ineg, t) :: is) nx L (.inl a :: S) M = wpB ce call cls lim nf Q K is nx L (.inl (wr (-a)) :: S) M := rfl
theorem w_ladd {a b : Int} : wpB ce call cls lim nf Q K ((.ladd, t) :: is) nx L (.inr (.inl b) :: .inr (.inl a) :: S) M = wpB ce call cls lim nf Q K is nx L (.inr (.inl (wrl (a + b))) :: S) M := rfl
theorem w_lmul {a b : Int} : wpB ce call cls lim nf Q K ((.lmul, t) :: is) nx L (.inr (.inl b) :: .inr (.inl a) :: S) M = wpB ce call cls lim nf Q K is nx L (.inr (.inl (wrl (a * b))) :: S) M := rfl
theorem w_ldiv {a b : Int} : wpB ce call cls lim nf Q K ((.ldiv, t) :: is) nx L (.inr (.inl b) :: .inr (.inl a) :: S) M = (b ≠ 0 ∧ wpB ce call cls lim nf Q K is nx L (.inr (.inl (wrl (a.tdiv b))) :: S) M) := rfl
theorem w_lrem {a b : Int} : wpB ce call cls lim nf Q K ((.lrem, t) :: is) nx L (.inr (.inl b) :: .inr (.inl a) :: S) M = (b ≠ 0 ∧ wpB ce call cls lim nf Q K is nx L (.inr (.inl (a.tmod b)) :: S) M) := rfl
theorem w_lcmp {a b : Int} : wpB ce call cls lim nf Q K ((.lcmp, t) :: is) nx L (.inr (.inl b) :: .inr (.inl a) :: S) M = wpB ce call cls lim nf Q K is nx L (.inl (lcm a b) :: S) M := rfl
theorem w_i2l {a : Int} : wpB ce call cls lim nf Q K ((.i2l, t) :: is) nx L (.inl a :: S) M = wpB ce call cls lim nf Q K is nx L (.inr (.inl a) :: S) M := rfl
theorem w_l2i {a : Int} : wpB ce call cls lim nf Q K ((.l2i, t) :: is) nx L (.inr (.inl a) :: S) M = wpB ce call cls lim nf Q K is nx L (.inl (wr a) :: S) M := rfl
theorem w_dup {v : Vx} : wpB ce call cls lim nf Q K ((.dup, t) :: is) nx L (v :: S) M = (szV v = 1 ∧ wpB ce call cls lim nf Q K is nx L (v :: v :: S) M) := rfl
theorem w_dup2 {v w : Vx} : wpB ce call cls lim nf Q K ((.dup2, t) :: is) nx L (v :: w :: S) M = ((szV v = 1 ∧ szV w = 1) ∧ wpB ce call cls lim nf Q K is nx L (v :: w :: v :: w :: S) M) := rfl
theorem w_pop {v : Vx} : wpB ce call cls lim nf Q K ((.pop, t) :: is) nx L (v :: S) M = (szV v = 1 ∧ wpB ce call cls lim nf Q K is nx L S M) := rfl
theorem w_if {c : ClassFile.Cond} {n x : Int} {a : Nat} {b : Nat × Int} : wpB ce call cls lim nf Q K ((.ifCond c n, a, b) :: is) nx L (.inl x :: S) M = ((icm c x 0 → K a L S M) ∧ (¬ icm c x 0 → wpB ce call cls lim nf Q K is nx L S M)) := rfl
theorem w_icmp {c : ClassFile.Cond} {n x y : Int} {a : Nat} {b : Nat × Int} : wpB ce call cls lim nf Q K ((.if_icmp c n, a, b) :: is) nx L (.inl y :: .inl x :: S) M = ((icm c x y → K a L S M) ∧ (¬ icm c x y → wpB ce call cls lim nf Q K is nx L S M)) := rfl
theorem w_goto {n : Int} {a : Nat} {b : Nat × Int} : wpB ce call cls lim nf Q K ((.goto n, a, b) :: is) nx L S M = K a L S M := rfl
theorem w_switch {d lo hi x z : Int} {offs : Array Int} {a b : Nat} : wpB ce call cls lim nf Q K ((.tableswitch d lo hi offs, a, b, z) :: is) nx L (.inl x :: S) M = ((x < lo ∨ hi < x → K a L S M) ∧ (∀ (j : Nat) (off : Int), offs[j]? = some off → x = lo + j → x ≤ hi → K (b + off).toNat L S M)) := rfl
theorem w_getf0 {n ci j q : Nat} : wpB ce call cls lim nf Q K ((.getfield n, ci, j, 0) :: is) nx L (.inr (.inr (.inl q)) :: S) M = oG (M.2.2.1 q) ci (wpB ce call cls lim nf Q K is nx L (.inl (M.2.2.2.2 q j) :: S) M) := rfl
theorem w_getf2 {n ci j q : Nat} : wpB ce call cls lim nf Q K ((.getfield n, ci, j, 2) :: is) nx L (.inr (.inr (.inl q)) :: S) M = oG (M.2.2.1 q) ci (wpB ce call cls lim nf Q K is nx L (.inl (M.2.2.2.2 q j) :: S) M) := rfl
theorem w_getf1 {n ci j q : Nat} : wpB ce call cls lim nf Q K ((.getfield n, ci, j, 1) :: is) nx L (.inr (.inr (.inl q)) :: S) M = oG (M.2.2.1 q) ci (wpB ce call cls lim nf Q K is nx L (M.2.2.2.1 q j :: S) M) := rfl
theorem w_putf0 {n ci j q : Nat} {x : Int} : wpB ce call cls lim nf Q K ((.putfield n, ci, j, 0) :: is) nx L (.inl x :: .inr (.inr (.inl q)) :: S) M = oG (M.2.2.1 q) ci (wpB ce call cls lim nf Q K is nx L S (M.1, M.2.1, M.2.2.1, M.2.2.2.1, st M.2.2.2.2 q j x)) := rfl
theorem w_putf2 {n ci j q : Nat} {x : Int} : wpB ce call cls lim nf Q K ((.putfield n, ci, j, 2) :: is) nx L (.inl x :: .inr (.inr (.inl q)) :: S) M = oG (M.2.2.1 q) ci ((x = 0 ∨ x = 1) ∧ wpB ce call cls lim nf Q K is nx L S (M.1, M.2.1, M.2.2.1, M.2.2.2.1, st M.2.2.2.2 q j x)) := rfl
theorem w_putf1 {n ci j q q2 : Nat} : wpB ce call cls lim nf Q K ((.putfield n, ci, j, 1) :: is) nx L (.inr (.inr (.inl q2)) :: .inr (.inr (.inl q)) :: S) M = oG (M.2.2.1 q) ci (wpB ce call cls lim nf Q K is nx L S (M.1, M.2.1, M.2.2.1, rst M.2.2.2.1 q j (.inr (.inr (.inl q2))), M.2.2.2.2)) := rfl
theorem w_getst {n j : Nat} {b : Nat × Int} : wpB ce call cls lim nf Q K ((.getstatic n, j, b) :: is) nx L S M = wpB ce call cls lim nf Q K is nx L (.inr (.inr (.inr j)) :: S) M := rfl
theorem w_iald {i : Int} {q : Nat} : wpB ce call cls lim nf Q K ((.iaload, t) :: is) nx L (.inl i :: .inr (.inr (.inl q)) :: S) M = aG (M.2.2.1 q) fun len => (0 ≤ i ∧ i < len) ∧ wpB ce call cls lim nf Q K is nx L (.inl (M.2.2.2.2 q i) :: S) M := rfl
theorem w_ialdc {i : Int} {j : Nat} : wpB ce call cls lim nf Q K ((.iaload, t) :: is) nx L (.inl i :: .inr (.inr (.inr j)) :: S) M = ((0 ≤ i ∧ i < (ce j).1 ∧ 0 < j ∧ j < 7) ∧ wpB ce call cls lim nf Q K is nx L (.inl ((ce j).2 i) :: S) M) := rfl
theorem w_iast {i x : Int} {q : Nat} : wpB ce call cls lim nf Q K ((.iastore, t) :: is) nx L (.inl x :: .inl i :: .inr (.inr (.inl q)) :: S) M = aG (M.2.2.1 q) fun len => (0 ≤ i ∧ i < len) ∧ wpB ce call cls lim nf Q K is nx L S (M.1, M.2.1, M.2.2.1, M.2.2.2.1, st M.2.2.2.2 q i x) := rfl
theorem w_alen {j : Nat} : wpB ce call cls lim nf Q K ((.arraylength, t) :: is) nx L (.inr (.inr (.inr j)) :: S) M = ((0 < j ∧ j < 7) ∧ wpB ce call cls lim nf Q K is nx L (.inl (ce j).1 :: S) M) := rfl
theorem w_newa {n : Int} : wpB ce call cls lim nf Q K ((.newarray .int, t) :: is) nx L (.inl n :: S) M = ((0 ≤ n ∧ n < 100000000 ∧ M.1 + 1 ≤ lim.1 ∧ M.2.1 + n.toNat ≤ lim.2) ∧ wpB ce call cls lim nf Q K is nx L (.inr (.inr (.inl M.1)) :: S) (M.1 + 1, M.2.1 + n.toNat, shs M.2.2.1 M.1 (.inl n), rstz M.2.2.2.1 M.1, stz M.2.2.2.2 M.1)) := rfl
theorem w_new {n ci : Nat} {b : Nat × Int} : wpB ce call cls lim nf Q K ((.new n, ci, b) :: is) nx L S M = ((M.1 + 1 ≤ lim.1 ∧ M.2.1 + nf ci ≤ lim.2) ∧ wpB ce call cls lim nf Q K is nx L (.inr (.inr (.inl M.1)) :: S) (M.1 + 1, M.2.1 + nf ci, shs M.2.2.1 M.1 (.inr ci), rstz M.2.2.2.1 M.1, stz M.2.2.2.2 M.1)) := rfl
theorem w_virt {n y c : Nat} {b : Int} : wpB ce call cls lim nf Q K ((.invokevirtual n, y, c, b) :: is) nx L S M = wCall ce call cls 1 y c (wpB ce call cls lim nf Q K is nx) L S M := rfl
theorem w_spec {n y c : Nat} {b : Int} : wpB ce call cls lim nf Q K ((.invokespecial n, y, c, b) :: is) nx L S M = wCall ce call cls 2 y c (wpB ce call cls lim nf Q K is nx) L S M := rfl
theorem w_stat {n y c : Nat} {b : Int} : wpB ce call cls lim nf Q K ((.invokestatic n, y, c, b) :: is) nx L S M = wCall ce call cls 0 y c (wpB ce call cls lim nf Q K is nx) L S M := rfl
theorem w_iret {a : Int} {b : Nat × Int} : wpB ce call cls lim nf Q K ((.ireturn, 0, b) :: is) nx L [.inl a] M = Q (some (.inl a)) M := by
  show ((0 = 1 → _) ∧ _) = _
  simp
theorem w_zret {a : Int} {b : Nat × Int} : wpB ce call cls lim nf Q K ((.ireturn, 1, b) :: is) nx L [.inl a] M = ((a = 0 ∨ a = 1) ∧ Q (some (.inl a)) M) := by
  show ((1 = 1 → _) ∧ _) = _
  simp
theorem w_lret {a : Int} : wpB ce call cls lim nf Q K ((.lreturn, t) :: is) nx L [.inr (.inl a)] M = Q (some (.inr (.inl a))) M := rfl
theorem w_aret {a : Nat} : wpB ce call cls lim nf Q K ((.areturn, t) :: is) nx L [.inr (.inr (.inl a))] M = Q (some (.inr (.inr (.inl a)))) M := rfl
theorem w_vret : wpB ce call cls lim nf Q K ((.return_, t) :: is) nx L [] M = Q none M := rfl
end WL
section WC
variable {ce : Cx} {call : CLx} {cls : Nat → Option Nat} {k : Kx} {L S : List Vx} {M : Mx} {y n : Nat}
def cV (o : Option (List Vx × List Vx)) (f : Nat → List Vx → List Vx → Prop) : Prop := match o with
  | some (.inr (.inr (.inl q)) :: a, S) => f q a S
  | _ => False
def cS (o : Option (List Vx × List Vx)) (f : List Vx → List Vx → Prop) : Prop := match o with
  | some (a, S) => f a S
  | _ => False
theorem cV_s {q : Nat} {a S : List Vx} {f : Nat → List Vx → List Vx → Prop} : cV (some (.inr (.inr (.inl q)) :: a, S)) f = f q a S := rfl
theorem cS_s {a S : List Vx} {f : List Vx → List Vx → Prop} : cS (some (a, S)) f = f a S := rfl
theorem wc_v (h : y < 1000) : wCall ce call cls 1 y n k L S M = cV (pops n S []) fun q a S => szS S ≤ 8 ∧ M.2.2.1 q = (cls y).map .inr ∧ call y (.inr (.inr (.inl q)) :: a) M (fun r M => k L (r.toList ++ S) M) := by
  unfold wCall
  rw [if_neg (by omega), if_neg (by omega), if_neg (by omega), if_neg (by omega), if_neg (by omega), if_neg (by omega)]
  rcases pops n S [] with _ | ⟨a, S'⟩
  · rfl
  · rcases a with _ | ⟨v, a⟩
    · simp [cV]
    · rcases v with v | v | v | v <;> simp [cV]
theorem wc_i (h : y < 1000) : wCall ce call cls 2 y n k L S M = cV (pops n S []) fun q a S => szS S ≤ 8 ∧ call y (.inr (.inr (.inl q)) :: a) M (fun r M => k L (r.toList ++ S) M) := by
  unfold wCall
  rw [if_neg (by omega), if_neg (by omega), if_neg (by omega), if_neg (by omega), if_neg (by omega), if_neg (by omega)]
  rcases pops n S [] with _ | ⟨a, S'⟩
  · rfl
  · rcases a with _ | ⟨v, a⟩
    · simp [cV]
    · rcases v with v | v | v | v <;> simp [cV]
theorem wc_s (h : y < 1000) : wCall ce call cls 0 y n k L S M = cS (pops n S []) fun a S => szS S ≤ 8 ∧ call y a M (fun r M => k L (r.toList ++ S) M) := by
  unfold wCall
  rw [if_neg (by omega), if_neg (by omega), if_neg (by omega), if_neg (by omega), if_neg (by omega), if_neg (by omega)]
  rcases pops n S [] with _ | ⟨a, S'⟩
  · rfl
  · rcases a with _ | ⟨v, a⟩
    · simp [cS]
    · rcases v with v | v | v | v <;> simp [cS]
theorem wc_copy {n dp sp : Int} {q q0 c : Nat} : wCall ce call cls 0 1000 c k L (.inl n :: .inl dp :: .inr (.inr (.inl q)) :: .inl sp :: .inr (.inr (.inl q0)) :: S) M = (szS S ≤ 8 ∧ aG (M.2.2.1 q) fun len => aG (M.2.2.1 q0) fun len0 => (q ≠ q0 ∧ 0 ≤ sp ∧ 0 ≤ dp ∧ 0 ≤ n ∧ sp + n ≤ len0 ∧ dp + n ≤ len) ∧ k L S (M.1, M.2.1, M.2.2.1, M.2.2.2.1, cpy M.2.2.2.2 (M.2.2.2.2 q0) sp q dp n)) := rfl
theorem wc_copyc {n dp sp : Int} {q j c : Nat} : wCall ce call cls 0 1000 c k L (.inl n :: .inl dp :: .inr (.inr (.inl q)) :: .inl sp :: .inr (.inr (.inr j)) :: S) M = (szS S ≤ 8 ∧ aG (M.2.2.1 q) fun len => (0 ≤ sp ∧ 0 ≤ dp ∧ 0 ≤ n ∧ sp + n ≤ (ce j).1 ∧ dp + n ≤ len ∧ 0 < j ∧ j < 7) ∧ k L S (M.1, M.2.1, M.2.2.1, M.2.2.2.1, cpy M.2.2.2.2 ((ce j).2) sp q dp n)) := rfl
theorem wc_min {a b : Int} {c : Nat} : wCall ce call cls 0 1001 c k L (.inl b :: .inl a :: S) M = (szS S ≤ 8 ∧ k L (.inl (min a b) :: S) M) := rfl
theorem wc_max {a b : Int} {c : Nat} : wCall ce call cls 0 1002 c k L (.inl b :: .inl a :: S) M = (szS S ≤ 8 ∧ k L (.inl (max a b) :: S) M) := rfl
theorem wc_abs {a : Int} {c : Nat} : wCall ce call cls 0 1003 c k L (.inl a :: S) M = (szS S ≤ 8 ∧ k L (.inl (iab a) :: S) M) := rfl
theorem wc_char {i : Int} {j c : Nat} : wCall ce call cls 1 1004 c k L (.inl i :: .inr (.inr (.inr j)) :: S) M = (szS S ≤ 8 ∧ ((7 ≤ j ∧ j < 9) ∧ 0 ≤ i ∧ i < (ce j).1) ∧ k L (.inl ((ce j).2 i) :: S) M) := rfl
theorem wc_obj {q c : Nat} : wCall ce call cls 2 1005 c k L (.inr (.inr (.inl q)) :: S) M = (szS S ≤ 8 ∧ k L S M) := rfl
end WC
