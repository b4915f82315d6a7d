/-! THE JUDGEMENTS: a place in a method, with pure locals, stack and memory, comes to an end with Q; a method does -/
section JUD
variable (base : Nat) (adC adV : Nat → Nat) (cI : ClassId) (D : va_G) (ce : Cx)
def kn (L : List Vx) : List (Nat × Value) := (List.range L.length).filterMap fun k => if gl L k = vc 0 then none else some (k, cv base adC (gl L k))
def LR (L : List Vx) (ls : Array Slot) (nL : Nat) : Prop := L.length = nL ∧ lv_has ls nL (kn base adC L)
def CX (y d : Nat) (p : Program) (R : Room) (s : State) (m : MethodId) (args : Array Value) (meth : Method) (c : Code) : Prop :=
  p.tables.exec = Jvm.exec ∧ c.code = mC y ∧ c.maxLocals = mL y ∧ s.vm.findClass (mN y).cls = some m.cls ∧ (∀ w ∈ gW, w.before args s = true) ∧ va_K D vwCl [(cI, .int)] s ∧ KF base adC adV ce s s.heap ∧
  ((mN y).name = "<init>" → meth.name = "<init>") ∧ meth.sig.returnType = mR y ∧ meth.locks = false ∧ d + 4 ≤ R.frames ∧ 64 * (d + 4) ≤ R.locals ∧ base ≤ s.heap.size
/-- the instruction by which a method ends with an answer -/
def rtI (y : Nat) (r : Option Vx) (pc : Nat) : Prop := match r with
  | none => decode (mC y) pc = .ok (.return_, 1) ∧ mR y = none
  | some (.inl a) => decode (mC y) pc = .ok (.ireturn, 1) ∧ (mR y = some .int ∨ mR y = some .boolean ∧ (a = 0 ∨ a = 1))
  | some (.inr (.inl _)) => decode (mC y) pc = .ok (.lreturn, 1) ∧ mR y = some .long
  | some (.inr (.inr (.inl _))) => decode (mC y) pc = .ok (.areturn, 1) ∧ ∃ rt, mR y = some rt ∧ ((∃ n, rt = .object n) ∨ ∃ t, rt = .array t)
  | _ => False
def Tq (l : Launch) (d : Nat) (lim : Nat × Nat) (y pc : Nat) (L S : List Vx) (M : Mx) (Q : Qx) : Prop :=
  wfM M → (∀ v ∈ L, wfV v) → (∀ v ∈ S, wfV v) → ∀ (p : Program) (e : Env) (R : Room) (s : State) (m : MethodId) (args : Array Value) (below : List Frame) (meth : Method) (c : Code) (Z : State → Prop) (n0 s0 : Nat),
    CX base adC adV cI D ce y d p R s m args meth c → lim = (n0 + R.cells, s0 + R.slots) →
    (∀ (r : Option Vx) (M' : Mx) (H' : Heap) (locs' : List Loc) (cells' slots' pc' : Nat) (ls' : Array Slot), Q r M' → wfM M' → (∀ v, r = some v → wfV v) → RS base adC cI D M' H' → va_S (oA base) s.heap H' locs' → n0 + cells' = M'.1 → s0 + slots' = M'.2.1 → M'.1 ≤ lim.1 → M'.2.1 ≤ lim.2 → rtI y r pc' →
      W p l e R s m args below meth c H' locs' cells' slots' Z (F0 m pc' ls' (r.toList.map (cv base adC)))) →
    ∀ (H : Heap) (locs : List Loc) (cells slots : Nat) (ls : Array Slot), RS base adC cI D M H → va_S (oA base) s.heap H locs → n0 + cells = M.1 → s0 + slots = M.2.1 → M.1 ≤ lim.1 → M.2.1 ≤ lim.2 → LR base adC L ls (mL y) →
      W p l e R s m args below meth c H locs cells slots Z (F0 m pc ls (S.map (cv base adC)))
def Cq (l : Launch) (d y : Nat) (a : List Vx) (M : Mx) (Q : Qx) : Prop := wfM M → (∀ v ∈ a, wfV v) →
  Met l (mN y) (.code (mN y) (mC y) (mL y) (mR y) :: gW) { frames := d + 4, cells := (bu y).1, slots := (bu y).2, locals := 64 * (d + 4) }
    (va_Pc (a.map (cv base adC)) fun U => RS base adC cI D M U.heap ∧ va_K D vwCl [(cI, .int)] U ∧ KF base adC adV ce U U.heap)
    (fun _ U oc t => ∃ (r : Option Vx) (M' : Mx), oc = .returned (r.map (cv base adC)) ∧ Q r M' ∧ wfM M' ∧ (∀ v, r = some v → wfV v) ∧ M'.1 = M.1 + (bu y).1 ∧ M'.2.1 = M.2.1 + (bu y).2 ∧ RS base adC cI D M' t.heap ∧ va_F (oA base) U t)
    (bu y).1 (bu y).2 (oA base)
def cD (l : Launch) (lim : Nat × Nat) (d : Nat) : CLx := fun y a M Q => match d with
  | 0 => False
  | d + 1 => (M.1 + (bu y).1 ≤ lim.1 ∧ M.2.1 + (bu y).2 ≤ lim.2) ∧ Cq base adC adV cI D ce l d y a M Q
end JUD
def ilen : Instr → Nat
  | .aload _ | .iload _ | .lload _ | .astore _ | .istore _ | .lstore _ | .bipush _ | .ldc _ | .newarray _ => 2
  | .sipush _ | .ldc2_w _ | .iinc _ _ | .ifCond _ _ | .if_icmp _ _ | .goto _ | .getfield _ | .putfield _ | .getstatic _ | .invokevirtual _ | .invokespecial _ | .invokestatic _ | .new _ => 3
  | _ => 1
def isSw : Instr → Bool
  | .tableswitch _ _ _ _ => true
  | _ => false
/-- the numbers that an instruction brings are those of its bytes -/
def argB (pc : Nat) : Ix → Bool
  | (.iconst n, _, _, z) => decide (z = n) && decide (-1 ≤ n) && decide (n ≤ 5)
  | (.bipush n, _, _, z) => decide (z = n) && decide (-128 ≤ n) && decide (n < 128)
  | (.sipush n, _, _, z) => decide (z = n) && decide (-32768 ≤ n) && decide (n < 32768)
  | (.iinc _ n, _, _, z) => decide (z = n)
  | (.ifCond _ off, t, _) => decide ((pc : Int) + off = (t : Int))
  | (.if_icmp _ off, t, _) => decide ((pc : Int) + off = (t : Int))
  | (.goto off, t, _) => decide ((pc : Int) + off = (t : Int))
  | (.tableswitch d lo hi offs, t, b, _) => decide ((pc : Int) + d = (t : Int)) && decide (b = pc) && offs.all (fun o => decide (0 ≤ (pc : Int) + o)) && decide (hi - lo + 1 = offs.size)
  | _ => true
/-- where an instruction stores, there are locals -/
def locB (nL : Nat) : Instr → Bool
  | .istore_n j => decide (j.val < nL)
  | .istore j => decide (j < nL)
  | .astore_n j => decide (j.val < nL)
  | .astore j => decide (j < nL)
  | .lstore_n j => decide (j.val + 1 < nL)
  | .lstore j => decide (j + 1 < nL)
  | .iinc j _ => decide (j < nL)
  | _ => true
def decB (cc : ByteArray) (nL pc : Nat) (i : Ix) : Bool := match decode cc pc with
  | .ok (j, n) => decide (j = i.1) && (decide (n = ilen i.1) || isSw i.1) && argB pc i && locB nL i.1
  | _ => false
def decL (cc : ByteArray) (nL : Nat) : Nat → List Ix → Nat → Bool
  | pc, [], nx => decide (pc = nx)
  | pc, i :: is, nx => decB cc nL pc i && decL cc nL (pc + ilen i.1) is nx
/-- a method that may be called -/
def mOK (y : Nat) : Prop := .code (mN y) (mC y) (mL y) (mR y) ∈ gW ∧ mL y ≤ 40 ∧ .initialized (mN y).cls ∈ gW ∧ ((mN y).cls ≠ "java/lang/invoke/MethodHandle" ∧ (mN y).cls ≠ "java/lang/invoke/VarHandle") ∧ plainName (mN y).cls = true
def mPar (y n : Nat) : Prop := (parseMethodDescriptor (mN y).desc).map (fun d => d.parameters.length) = some n
def lkM (own : String) (idx : Nat) (y : Nat) : Prop := .methodLink own idx (mN y) ∈ gW ∨ ∃ host, .methodLinkNest own idx (mN y) host ∈ nW
/-- what an instruction links to -/
def lnk' (own nm : String) (rt : Option FieldType) : Ix → Prop
  | (.getfield idx, ci, j, z) => ∃ q, vwCl[ci]? = some q ∧ j < q.2.2 ∧ .fieldLink own idx (q.2.1 j).1 (q.2.1 j).2.1 (q.2.1 j).2.2.1 ∈ gW ∧ fI ci j = !decide (z = 1)
  | (.putfield idx, ci, j, z) => ∃ q, vwCl[ci]? = some q ∧ j < q.2.2 ∧ .fieldLink own idx (q.2.1 j).1 (q.2.1 j).2.1 (q.2.1 j).2.2.1 ∈ gW ∧ fI ci j = !decide (z = 1) ∧
      (z = 0 → parseFieldDescriptor (q.2.1 j).2.2.1 = some .int ∧ (q.2.1 j).2.2.2 = false) ∧ (z = 2 → parseFieldDescriptor (q.2.1 j).2.2.1 = some .boolean ∧ (q.2.1 j).2.2.2 = false) ∧
      (z = 1 → (∃ ty, parseFieldDescriptor (q.2.1 j).2.2.1 = some ty ∧ ((∃ n, ty = .object n) ∨ ∃ t, ty = .array t)) ∧ (q.2.1 j).2.2.2 = true ∧ nm = "<init>" ∧ (q.2.1 j).1 = own)
  | (.getstatic idx, j, _, _) => ∃ C n, stN j = some (C, n) ∧ 0 < j ∧ (.fieldLink own idx C n "[I" ∈ gW ∨ ∃ host, .fieldLinkNest own idx C n "[I" host ∈ nW)
  | (.new idx, ci, _, _) => ∃ q, vwCl[ci]? = some q ∧ .classLink own idx q.1 ∈ gW ∧ .instantiable q.1 q.2.2 ∈ gW ∧ .initialized q.1 ∈ gW
  | (.newarray .int, _) => .arrayClass .int ∈ gW
  | (.ldc idx, 0, _, z) => inR z ∧ .constant own idx (Int32.ofInt z) ∈ gW
  | (.ldc idx, 1, j, _) => 0 < j ∧ ∃ tx, (own, idx, tx, j) ∈ sW
  | (.ldc2_w idx, _, _, z) => inRL z ∧ .constantLong own idx (Int64.ofInt z) ∈ gW
  | (.invokevirtual idx, y', n, _) => if y' < 1000 then mOK y' ∧ (∃ k, n = k + 1 ∧ mPar y' k) ∧ (∃ ci q, clsN y' = some ci ∧ vwCl[ci]? = some q ∧ q.1 = (mN y').cls) ∧ .methodLink own idx (mN y') ∈ gW ∧ .selects (mN y').cls (mN y') (mN y') ∈ gW ∧ .instanceMethod (mN y') ∈ gW
      else y' = 1004 ∧ .methodLink own idx ⟨"java/lang/String", "charAt", "(I)C"⟩ ∈ gW
  | (.invokespecial idx, y', n, _) => if y' < 1000 then mOK y' ∧ (∃ k, n = k + 1 ∧ mPar y' k) ∧ lkM own idx y' ∧ .instanceMethod (mN y') ∈ gW ∧ (mN y').name = "<init>" ∧ mR y' = none
      else y' = 1005 ∧ .methodLink own idx Lib.objectInit ∈ gW
  | (.invokestatic idx, y', n, _) => if y' < 1000 then mOK y' ∧ mPar y' n ∧ lkM own idx y' ∧ .static (mN y') ∈ gW
      else (y' = 1000 ∧ .methodLink own idx arraycopyName ∈ gW) ∨ (y' = 1001 ∧ .methodLink own idx Lib.Math.min.name ∈ gW) ∨ (y' = 1002 ∧ .methodLink own idx Lib.Math.max.name ∈ gW) ∨ (y' = 1003 ∧ .methodLink own idx Lib.Math.abs.name ∈ gW)
  | (.ireturn, b, _) => (b = 0 ∧ rt = some .int) ∨ (b = 1 ∧ rt = some .boolean)
  | (.lreturn, _) => rt = some .long
  | (.areturn, _) => ∃ ft : FieldType, rt = some ft ∧ ((∃ n, ft = .object n) ∨ ∃ t, ft = .array t)
  | (.return_, _) => rt = none
  | _ => True
def lnk (y : Nat) (i : Ix) : Prop := lnk' (mN y).cls (mN y).name (mR y) i
def lnkL (y : Nat) : List Ix → Prop
  | [] => True
  | i :: is => lnk y i ∧ lnkL y is
def lnkL' (own nm : String) (rt : Option FieldType) : List Ix → Prop
  | [] => True
  | i :: is => lnk' own nm rt i ∧ lnkL' own nm rt is
def BlkOK (y pc : Nat) (is : List Ix) (nx : Nat) : Prop := decL (mC y) (mL y) pc is nx = true ∧ lnkL y is
theorem lnkL_of {y : Nat} : ∀ {is : List Ix}, lnkL' (mN y).cls (mN y).name (mR y) is → lnkL y is
  | [], _ => trivial
  | _ :: _, h => ⟨h.1, lnkL_of h.2⟩
theorem ok_of {y pc nx : Nat} {is : List Ix} {mn : MethodName} {cc : ByteArray} {nL : Nat} {rt : Option FieldType} (hg : mG y = (mn, cc, nL, rt)) (h1 : decL cc nL pc is nx = true) (h2 : lnkL' mn.cls mn.name rt is) : BlkOK y pc is nx := by
  have e1 : mC y = cc := by unfold mC; rw [hg]
  have e2 : mL y = nL := by unfold mL; rw [hg]
  have e3 : mN y = mn := by unfold mN; rw [hg]
  have e4 : mR y = rt := by unfold mR; rw [hg]
  refine ⟨by rw [e1, e2]; exact h1, lnkL_of ?_⟩
  rw [e3, e4]; exact h2
