/-! THE PURE MACHINE: values are Ints; memory: how many cells, how many slots, their shapes, their references, their numbers. -/
abbrev Vx : Type := Int ⊕ (Int ⊕ (Nat ⊕ Nat))
abbrev vi (x : Int) : Vx := .inl x
abbrev vl (x : Int) : Vx := .inr (.inl x)
abbrev vr (k : Nat) : Vx := .inr (.inr (.inl k))
abbrev vc (j : Nat) : Vx := .inr (.inr (.inr j))
/-- the shape of a place: an array of so many numbers, or an object of a class -/
abbrev Sx : Type := Nat → Option (Int ⊕ Nat)
abbrev Mx : Type := Nat × Nat × Sx × (Nat → Nat → Vx) × (Nat → Int → Int)
/-- an instruction, with what it links to: two numbers and a value -/
abbrev Ix : Type := Instr × Nat × Nat × Int
abbrev Cx : Type := Nat → Int × (Int → Int)
theorem wr_ex : ∃ f : Int → Int, ∀ x, f x = (x + 2147483648) % 4294967296 - 2147483648 := ⟨_, fun _ => rfl⟩
/-- chosen, so that nothing unfolds it -/
noncomputable def wr : Int → Int := Classical.choose wr_ex
theorem wr_def (x : Int) : wr x = (x + 2147483648) % 4294967296 - 2147483648 := Classical.choose_spec wr_ex x
theorem wrl_ex : ∃ f : Int → Int, ∀ x, f x = (x + 9223372036854775808) % 18446744073709551616 - 9223372036854775808 := ⟨_, fun _ => rfl⟩
noncomputable def wrl : Int → Int := Classical.choose wrl_ex
theorem wrl_def (x : Int) : wrl x = (x + 9223372036854775808) % 18446744073709551616 - 9223372036854775808 := Classical.choose_spec wrl_ex x
def inR (x : Int) : Prop := -2147483648 ≤ x ∧ x < 2147483648
def inRL (x : Int) : Prop := -9223372036854775808 ≤ x ∧ x < 9223372036854775808
/-- a number written into memory -/
def st (g : Nat → Int → Int) (q : Nat) (i v : Int) : Nat → Int → Int := fun q' i' => if q' = q ∧ i' = i then v else g q' i'
def rst (r : Nat → Nat → Vx) (q j : Nat) (v : Vx) : Nat → Nat → Vx := fun q' j' => if q' = q ∧ j' = j then v else r q' j'
def stz (g : Nat → Int → Int) (q : Nat) : Nat → Int → Int := fun q' i' => if q' = q then 0 else g q' i'
def rstz (r : Nat → Nat → Vx) (q : Nat) : Nat → Nat → Vx := fun q' j' => if q' = q then vc 0 else r q' j'
def shs (s : Sx) (q : Nat) (x : Int ⊕ Nat) : Sx := fun q' => if q' = q then some x else s q'
/-- a stretch copied -/
def cpy (g : Nat → Int → Int) (src : Int → Int) (sp : Int) (q : Nat) (dp n : Int) : Nat → Int → Int := fun q' i' => if q' = q ∧ dp ≤ i' ∧ i' < dp + n then src (sp + (i' - dp)) else g q' i'
def gl : List Vx → Nat → Vx
  | [], _ => vc 0
  | v :: _, 0 => v
  | _ :: l, k + 1 => gl l k
def sl : List Vx → Nat → Vx → List Vx
  | [], _, _ => []
  | _ :: l, 0, v => v :: l
  | w :: l, k + 1, v => w :: sl l k v
def isL : Vx → Bool
  | .inr (.inl _) => true
  | _ => false
/-- whether the local ahead of k is no long -/
def okS (L : List Vx) : Nat → Bool
  | 0 => true
  | k + 1 => !isL (gl L k)
def szV : Vx → Nat
  | .inr (.inl _) => 2
  | _ => 1
def szS : List Vx → Nat
  | [] => 0
  | v :: S => szV v + szS S
/-- the uppermost n of a stack, the lowest first, and the rest -/
def pops : Nat → List Vx → List Vx → Option (List Vx × List Vx)
  | 0, S, a => some (a, S)
  | n + 1, v :: S, a => pops n S (v :: a)
  | _ + 1, [], _ => none
def icm (c : ClassFile.Cond) (a b : Int) : Prop := match c with
  | .eq => a = b
  | .ne => a ≠ b
  | .lt => a < b
  | .ge => b ≤ a
  | .gt => b < a
  | .le => a ≤ b
def aG (o : Option (Int ⊕ Nat)) (f : Int → Prop) : Prop := match o with
  | some (.inl n) => f n
  | _ => False
def oG (o : Option (Int ⊕ Nat)) (ci : Nat) (P : Prop) : Prop := match o with
  | some (.inr c) => c = ci ∧ P
  | _ => False
def lcm (a b : Int) : Int := if a < b then -1 else if a = b then 0 else 1
def ian (a b : Int) : Int := (Int32.ofInt a &&& Int32.ofInt b).toInt
noncomputable def iab (a : Int) : Int := if 0 ≤ a then a else wr (0 - a)
abbrev Kx : Type := List Vx → List Vx → Mx → Prop
abbrev Qx : Type := Option Vx → Mx → Prop
abbrev CLx : Type := Nat → List Vx → Mx → Qx → Prop
/-- reading a local -/
def wLd (L S : List Vx) (M : Mx) (k : Kx) (j : Nat) (ty : Nat) : Prop := match ty, gl L j with
  | 0, .inl x => k L (.inl x :: S) M
  | 1, .inr (.inl x) => k L (.inr (.inl x) :: S) M
  | 2, .inr (.inr (.inl q)) => k L (.inr (.inr (.inl q)) :: S) M
  | 2, .inr (.inr (.inr (j + 1))) => k L (.inr (.inr (.inr (j + 1))) :: S) M
  | _, _ => False
/-- writing one -/
def wSt (L S : List Vx) (M : Mx) (k : Kx) (j : Nat) (ty : Nat) : Prop := okS L j = true ∧ match ty, S with
  | 0, .inl x :: S => k (sl L j (.inl x)) S M
  | 1, .inr (.inl x) :: S => k (sl (sl L j (.inr (.inl x))) (j + 1) (vc 0)) S M
  | 2, .inr (.inr (.inl q)) :: S => k (sl L j (.inr (.inr (.inl q)))) S M
  | 2, .inr (.inr (.inr (n + 1))) :: S => k (sl L j (.inr (.inr (.inr (n + 1))))) S M
  | _, _ => False
/-- a call: of a method (its number), of arraycopy (1000), of Math.min, max, abs (1001 to 1003), of charAt (1004), of Object's maker (1005) -/
def wCall (ce : Cx) (call : CLx) (cls : Nat → Option Nat) (virt : Nat) (y n : Nat) (k : Kx) (L S : List Vx) (M : Mx) : Prop :=
  if y = 1000 then match S with
    | .inl n :: .inl dp :: .inr (.inr (.inl q)) :: .inl sp :: .inr (.inr (.inl q0)) :: S => szS S ≤ 8 ∧ aG (M.2.2.1 q) fun len => aG (M.2.2.1 q0) fun len0 => (q ≠ q0 ∧ 0 ≤ sp ∧ 0 ≤ dp ∧ 0 ≤ n ∧ sp + n ≤ len0 ∧ dp + n ≤ len) ∧ k L S (M.1, M.2.1, M.2.2.1, M.2.2.2.1, cpy M.2.2.2.2 (M.2.2.2.2 q0) sp q dp n)
    | .inl n :: .inl dp :: .inr (.inr (.inl q)) :: .inl sp :: .inr (.inr (.inr j)) :: S => szS S ≤ 8 ∧ aG (M.2.2.1 q) fun len => (0 ≤ sp ∧ 0 ≤ dp ∧ 0 ≤ n ∧ sp + n ≤ (ce j).1 ∧ dp + n ≤ len ∧ 0 < j ∧ j < 7) ∧ k L S (M.1, M.2.1, M.2.2.1, M.2.2.2.1, cpy M.2.2.2.2 ((ce j).2) sp q dp n)
    | _ => False
  else if y = 1001 then match S with
    | .inl b :: .inl a :: S => szS S ≤ 8 ∧ k L (.inl (min a b) :: S) M
    | _ => False
  else if y = 1002 then match S with
    | .inl b :: .inl a :: S => szS S ≤ 8 ∧ k L (.inl (max a b) :: S) M
    | _ => False
  else if y = 1003 then match S with
    | .inl a :: S => szS S ≤ 8 ∧ k L (.inl (iab a) :: S) M
    | _ => False
  else if y = 1004 then match S with
    | .inl i :: .inr (.inr (.inr j)) :: S => szS S ≤ 8 ∧ ((7 ≤ j ∧ j < 9) ∧ 0 ≤ i ∧ i < (ce j).1) ∧ k L (.inl ((ce j).2 i) :: S) M
    | _ => False
  else if y = 1005 then match S with
    | .inr (.inr (.inl q)) :: S => szS S ≤ 8 ∧ k L S M
    | _ => False
  else match pops n S [] with
    | some (.inr (.inr (.inl q)) :: a, S) => szS S ≤ 8 ∧ (virt = 1 → M.2.2.1 q = (cls y).map .inr) ∧ call y (.inr (.inr (.inl q)) :: a) M (fun r M => k L (r.toList ++ S) M)
    | some (a, S) => szS S ≤ 8 ∧ virt = 0 ∧ call y a M (fun r M => k L (r.toList ++ S) M)
    | none => False
def wp1 (ce : Cx) (call : CLx) (cls : Nat → Option Nat) (lim : Nat × Nat) (nf : Nat → Nat) (Q : Qx) (K : Nat → Kx) (i : Ix) (k : Kx) (L S : List Vx) (M : Mx) : Prop := match i with
  | (.aload_n j, _) => wLd L S M k j.val 2
  | (.aload j, _) => wLd L S M k j 2
  | (.iload_n j, _) => wLd L S M k j.val 0
  | (.iload j, _) => wLd L S M k j 0
  | (.lload_n j, _) => wLd L S M k j.val 1
  | (.lload j, _) => wLd L S M k j 1
  | (.astore_n j, _) => wSt L S M k j.val 2
  | (.astore j, _) => wSt L S M k j 2
  | (.istore_n j, _) => wSt L S M k j.val 0
  | (.istore j, _) => wSt L S M k j 0
  | (.lstore_n j, _) => wSt L S M k j.val 1
  | (.lstore j, _) => wSt L S M k j 1
  | (.iconst _, _, _, z) => k L (.inl z :: S) M
  | (.bipush _, _, _, z) => k L (.inl z :: S) M
  | (.sipush _, _, _, z) => k L (.inl z :: S) M
  | (.ldc _, 0, _, z) => k L (.inl z :: S) M
  | (.ldc _, 1, j, _) => k L (.inr (.inr (.inr j)) :: S) M
  | (.ldc2_w _, _, _, z) => k L (.inr (.inl z) :: S) M
  | (.iinc j _, _, _, z) => okS L j = true ∧ match gl L j with
    | .inl x => k (sl L j (.inl (wr (x + z)))) S M
    | _ => False
  | (.iadd, _) => match S with | .inl b :: .inl a :: S => k L (.inl (wr (a + b)) :: S) M | _ => False
  | (.isub, _) => match S with | .inl b :: .inl a :: S => k L (.inl (wr (a - b)) :: S) M | _ => False
  | (.imul, _) => match S with | .inl b :: .inl a :: S => k L (.inl (wr (a * b)) :: S) M | _ => False
  | (.idiv, _) => match S with | .inl b :: .inl a :: S => b ≠ 0 ∧ k L (.inl (wr (a.tdiv b)) :: S) M | _ => False
  | (.irem, _) => match S with | .inl b :: .inl a :: S => b ≠ 0 ∧ k L (.inl (a.tmod b) :: S) M | _ => False
  | (.ineg, _) => match S with | .inl a :: S => k L (.inl (wr (-a)) :: S) M | _ => False
  | (.iand, _) => match S with | .inl b :: .inl a :: S => k L (.inl (ian a b) :: S) M | _ => False
  | (.ladd, _) => match S with | .inr (.inl b) :: .inr (.inl a) :: S => k L (.inr (.inl (wrl (a + b))) :: S) M | _ => False
  | (.lmul, _) => match S with | .inr (.inl b) :: .inr (.inl a) :: S => k L (.inr (.inl (wrl (a * b))) :: S) M | _ => False
  | (.ldiv, _) => match S with | .inr (.inl b) :: .inr (.inl a) :: S => b ≠ 0 ∧ k L (.inr (.inl (wrl (a.tdiv b))) :: S) M | _ => False
  | (.lrem, _) => match S with | .inr (.inl b) :: .inr (.inl a) :: S => b ≠ 0 ∧ k L (.inr (.inl (a.tmod b)) :: S) M | _ => False
  | (.lcmp, _) => match S with | .inr (.inl b) :: .inr (.inl a) :: S => k L (.inl (lcm a b) :: S) M | _ => False
  | (.i2l, _) => match S with | .inl a :: S => k L (.inr (.inl a) :: S) M | _ => False
  | (.l2i, _) => match S with | .inr (.inl a) :: S => k L (.inl (wr a) :: S) M | _ => False
  | (.dup, _) => match S with | v :: S => szV v = 1 ∧ k L (v :: v :: S) M | _ => False
  | (.dup2, _) => match S with | v :: w :: S => (szV v = 1 ∧ szV w = 1) ∧ k L (v :: w :: v :: w :: S) M | _ => False
  | (.pop, _) => match S with | v :: S => szV v = 1 ∧ k L S M | _ => False
  | (.ifCond c _, t, _) => match S with | .inl a :: S => (icm c a 0 → K t L S M) ∧ (¬ icm c a 0 → k L S M) | _ => False
  | (.if_icmp c _, t, _) => match S with | .inl b :: .inl a :: S => (icm c a b → K t L S M) ∧ (¬ icm c a b → k L S M) | _ => False
  | (.goto _, t, _) => K t L S M
  | (.tableswitch _ lo hi offs, t, pc, _) => match S with | .inl x :: S => (x < lo ∨ hi < x → K t L S M) ∧ (∀ (j : Nat) (off : Int), offs[j]? = some off → x = lo + j → x ≤ hi → K (pc + off).toNat L S M) | _ => False
  | (.getfield _, ci, j, z) => match S with | .inr (.inr (.inl q)) :: S => oG (M.2.2.1 q) ci (if z = 1 then k L (M.2.2.2.1 q j :: S) M else k L (.inl (M.2.2.2.2 q j) :: S) M) | _ => False
  | (.putfield _, ci, j, z) => match S with
    | v :: .inr (.inr (.inl q)) :: S => oG (M.2.2.1 q) ci (match z, v with
      | 0, .inl x => k L S (M.1, M.2.1, M.2.2.1, M.2.2.2.1, st M.2.2.2.2 q j x)
      | 2, .inl x => (x = 0 ∨ x = 1) ∧ k L S (M.1, M.2.1, M.2.2.1, M.2.2.2.1, st M.2.2.2.2 q j x)
      | 1, .inr (.inr (.inl q')) => k L S (M.1, M.2.1, M.2.2.1, rst M.2.2.2.1 q j (.inr (.inr (.inl q'))), M.2.2.2.2)
      | _, _ => False)
    | _ => False
  | (.getstatic _, j, _, _) => k L (.inr (.inr (.inr j)) :: S) M
  | (.iaload, _) => match S with
    | .inl i :: .inr (.inr (.inl q)) :: S => aG (M.2.2.1 q) fun len => (0 ≤ i ∧ i < len) ∧ k L (.inl (M.2.2.2.2 q i) :: S) M
    | .inl i :: .inr (.inr (.inr j)) :: S => (0 ≤ i ∧ i < (ce j).1 ∧ 0 < j ∧ j < 7) ∧ k L (.inl ((ce j).2 i) :: S) M
    | _ => False
  | (.iastore, _) => match S with
    | .inl x :: .inl i :: .inr (.inr (.inl q)) :: S => aG (M.2.2.1 q) fun len => (0 ≤ i ∧ i < len) ∧ k L S (M.1, M.2.1, M.2.2.1, M.2.2.2.1, st M.2.2.2.2 q i x)
    | _ => False
  | (.arraylength, _) => match S with
    | .inr (.inr (.inr j)) :: S => (0 < j ∧ j < 7) ∧ k L (.inl (ce j).1 :: S) M
    | _ => False
  | (.newarray .int, _) => match S with
    | .inl n :: S => (0 ≤ n ∧ n < 100000000 ∧ M.1 + 1 ≤ lim.1 ∧ M.2.1 + n.toNat ≤ lim.2) ∧ k L (.inr (.inr (.inl M.1)) :: S) (M.1 + 1, M.2.1 + n.toNat, shs M.2.2.1 M.1 (.inl n), rstz M.2.2.2.1 M.1, stz M.2.2.2.2 M.1)
    | _ => False
  | (.new _, ci, _, _) => (M.1 + 1 ≤ lim.1 ∧ M.2.1 + nf ci ≤ lim.2) ∧ k L (.inr (.inr (.inl M.1)) :: S) (M.1 + 1, M.2.1 + nf ci, shs M.2.2.1 M.1 (.inr ci), rstz M.2.2.2.1 M.1, stz M.2.2.2.2 M.1)
  | (.invokevirtual _, y, n, _) => wCall ce call cls 1 y n k L S M
  | (.invokespecial _, y, n, _) => wCall ce call cls 2 y n k L S M
  | (.invokestatic _, y, n, _) => wCall ce call cls 0 y n k L S M
  | (.ireturn, b, _) => match S with | [.inl a] => (b = 1 → a = 0 ∨ a = 1) ∧ Q (some (.inl a)) M | _ => False
  | (.lreturn, _) => match S with | [.inr (.inl a)] => Q (some (.inr (.inl a))) M | _ => False
  | (.areturn, _) => match S with | [.inr (.inr (.inl q))] => Q (some (.inr (.inr (.inl q)))) M | _ => False
  | (.return_, _) => match S with | [] => Q none M | _ => False
  | _ => False
def wpB (ce : Cx) (call : CLx) (cls : Nat → Option Nat) (lim : Nat × Nat) (nf : Nat → Nat) (Q : Qx) (K : Nat → Kx) : List Ix → Nat → Kx
  | [], nx => K nx
  | i :: is, nx => wp1 ce call cls lim nf Q K i (wpB ce call cls lim nf Q K is nx)
