/-! String.charAt over the class's own two texts -/
theorem dJ0_charAt_5068e_0 : decode cJ0_charAt_5068e 0 = .ok (.aload_n 0, 1) := by decide +kernel
theorem dJ0_charAt_5068e_1 : decode cJ0_charAt_5068e 1 = .ok (.invokevirtual 492, 3) := by decide +kernel
theorem dJ0_charAt_5068e_4 : decode cJ0_charAt_5068e 4 = .ok (.ifCond .eq 12, 3) := by decide +kernel
theorem dJ0_charAt_5068e_7 : decode cJ0_charAt_5068e 7 = .ok (.aload_n 0, 1) := by decide +kernel
theorem dJ0_charAt_5068e_8 : decode cJ0_charAt_5068e 8 = .ok (.getfield 9, 3) := by decide +kernel
theorem dJ0_charAt_5068e_11 : decode cJ0_charAt_5068e 11 = .ok (.iload_n 1, 1) := by decide +kernel
theorem dJ0_charAt_5068e_12 : decode cJ0_charAt_5068e 12 = .ok (.invokestatic 495, 3) := by decide +kernel
theorem dJ0_charAt_5068e_15 : decode cJ0_charAt_5068e 15 = .ok (.ireturn, 1) := by decide +kernel
theorem dJ0_charAt_5068e_16 : decode cJ0_charAt_5068e 16 = .ok (.aload_n 0, 1) := by decide +kernel
theorem dJ0_charAt_5068e_17 : decode cJ0_charAt_5068e 17 = .ok (.getfield 9, 3) := by decide +kernel
theorem dJ0_charAt_5068e_20 : decode cJ0_charAt_5068e 20 = .ok (.iload_n 1, 1) := by decide +kernel
theorem dJ0_charAt_5068e_21 : decode cJ0_charAt_5068e 21 = .ok (.invokestatic 498, 3) := by decide +kernel
theorem dJ0_charAt_5068e_24 : decode cJ0_charAt_5068e 24 = .ok (.ireturn, 1) := by decide +kernel
theorem dJ0_isLatin1_aae02_0 : decode cJ0_isLatin1_aae02 0 = .ok (.getstatic 38, 3) := by decide +kernel
theorem dJ0_isLatin1_aae02_3 : decode cJ0_isLatin1_aae02 3 = .ok (.ifCond .eq 14, 3) := by decide +kernel
theorem dJ0_isLatin1_aae02_6 : decode cJ0_isLatin1_aae02 6 = .ok (.aload_n 0, 1) := by decide +kernel
theorem dJ0_isLatin1_aae02_7 : decode cJ0_isLatin1_aae02 7 = .ok (.getfield 15, 3) := by decide +kernel
theorem dJ0_isLatin1_aae02_10 : decode cJ0_isLatin1_aae02 10 = .ok (.ifCond .ne 7, 3) := by decide +kernel
theorem dJ0_isLatin1_aae02_13 : decode cJ0_isLatin1_aae02 13 = .ok (.iconst 1, 1) := by decide +kernel
theorem dJ0_isLatin1_aae02_14 : decode cJ0_isLatin1_aae02 14 = .ok (.goto 4, 3) := by decide +kernel
theorem dJ0_isLatin1_aae02_17 : decode cJ0_isLatin1_aae02 17 = .ok (.iconst 0, 1) := by decide +kernel
theorem dJ0_isLatin1_aae02_18 : decode cJ0_isLatin1_aae02 18 = .ok (.ireturn, 1) := by decide +kernel
theorem dJ0_checkIndex_df160_0 : decode cJ0_checkIndex_df160 0 = .ok (.iload_n 0, 1) := by decide +kernel
theorem dJ0_checkIndex_df160_1 : decode cJ0_checkIndex_df160 1 = .ok (.iload_n 1, 1) := by decide +kernel
theorem dJ0_checkIndex_df160_2 : decode cJ0_checkIndex_df160 2 = .ok (.getstatic 1053, 3) := by decide +kernel
theorem dJ0_checkIndex_df160_5 : decode cJ0_checkIndex_df160 5 = .ok (.invokestatic 1059, 3) := by decide +kernel
theorem dJ0_checkIndex_df160_8 : decode cJ0_checkIndex_df160 8 = .ok (.pop, 1) := by decide +kernel
theorem dJ0_checkIndex_df160_9 : decode cJ0_checkIndex_df160 9 = .ok (.return_, 1) := by decide +kernel
theorem dJ1_charAt_3b067_0 : decode cJ1_charAt_3b067 0 = .ok (.iload_n 1, 1) := by decide +kernel
theorem dJ1_charAt_3b067_1 : decode cJ1_charAt_3b067 1 = .ok (.aload_n 0, 1) := by decide +kernel
theorem dJ1_charAt_3b067_2 : decode cJ1_charAt_3b067 2 = .ok (.arraylength, 1) := by decide +kernel
theorem dJ1_charAt_3b067_3 : decode cJ1_charAt_3b067 3 = .ok (.invokestatic 9, 3) := by decide +kernel
theorem dJ1_charAt_3b067_6 : decode cJ1_charAt_3b067 6 = .ok (.aload_n 0, 1) := by decide +kernel
theorem dJ1_charAt_3b067_7 : decode cJ1_charAt_3b067 7 = .ok (.iload_n 1, 1) := by decide +kernel
theorem dJ1_charAt_3b067_8 : decode cJ1_charAt_3b067 8 = .ok (.baload, 1) := by decide +kernel
theorem dJ1_charAt_3b067_9 : decode cJ1_charAt_3b067 9 = .ok (.sipush 255, 3) := by decide +kernel
theorem dJ1_charAt_3b067_12 : decode cJ1_charAt_3b067 12 = .ok (.iand, 1) := by decide +kernel
theorem dJ1_charAt_3b067_13 : decode cJ1_charAt_3b067 13 = .ok (.i2c, 1) := by decide +kernel
theorem dJ1_charAt_3b067_14 : decode cJ1_charAt_3b067 14 = .ok (.ireturn, 1) := by decide +kernel
theorem dJ3_checkIndex_8e157_0 : decode cJ3_checkIndex_8e157 0 = .ok (.iload_n 0, 1) := by decide +kernel
theorem dJ3_checkIndex_8e157_1 : decode cJ3_checkIndex_8e157 1 = .ok (.ifCond .lt 8, 3) := by decide +kernel
theorem dJ3_checkIndex_8e157_4 : decode cJ3_checkIndex_8e157 4 = .ok (.iload_n 0, 1) := by decide +kernel
theorem dJ3_checkIndex_8e157_5 : decode cJ3_checkIndex_8e157 5 = .ok (.iload_n 1, 1) := by decide +kernel
theorem dJ3_checkIndex_8e157_6 : decode cJ3_checkIndex_8e157 6 = .ok (.if_icmp .lt 10, 3) := by decide +kernel
theorem dJ3_checkIndex_8e157_9 : decode cJ3_checkIndex_8e157 9 = .ok (.aload_n 2, 1) := by decide +kernel
theorem dJ3_checkIndex_8e157_10 : decode cJ3_checkIndex_8e157 10 = .ok (.iload_n 0, 1) := by decide +kernel
theorem dJ3_checkIndex_8e157_11 : decode cJ3_checkIndex_8e157 11 = .ok (.iload_n 1, 1) := by decide +kernel
theorem dJ3_checkIndex_8e157_12 : decode cJ3_checkIndex_8e157 12 = .ok (.invokestatic 95, 3) := by decide +kernel
theorem dJ3_checkIndex_8e157_15 : decode cJ3_checkIndex_8e157 15 = .ok (.athrow, 1) := by decide +kernel
theorem dJ3_checkIndex_8e157_16 : decode cJ3_checkIndex_8e157 16 = .ok (.iload_n 0, 1) := by decide +kernel
theorem dJ3_checkIndex_8e157_17 : decode cJ3_checkIndex_8e157 17 = .ok (.ireturn, 1) := by decide +kernel
section CHR
variable {base : Nat} {adC adV : Nat → Nat} {ce : Cx}
def ynP : MethodName := yJ3_checkIndex_8e157
theorem wj_in {w : Cond} {ws : List Cond} (hw : w ∈ ws) (h : ws.all (fun w => decide (w ∈ lw_tbl) && goodWord w) = true) : w ∈ gW := gw_has (List.all_eq_true.mp h w hw)
abbrev wsP : List Cond := .code yJ3_checkIndex_8e157 cJ3_checkIndex_8e157 3 (some .int) :: gW
abbrev wsK : List Cond := .code yJ0_checkIndex_df160 cJ0_checkIndex_df160 2 none :: gW
abbrev wsC1 : List Cond := .code yJ1_charAt_3b067 cJ1_charAt_3b067 2 (some .char) :: gW
abbrev wsLt : List Cond := .code yJ0_isLatin1_aae02 cJ0_isLatin1_aae02 1 (some .boolean) :: gW
abbrev wsCh : List Cond := .code yJ0_charAt_5068e cJ0_charAt_5068e 2 (some .char) :: gW
theorem kc_P : .code yJ3_checkIndex_8e157 cJ3_checkIndex_8e157 3 (some .int) ∈ gW := gw_has (by decide +kernel)
theorem kc_K : .code yJ0_checkIndex_df160 cJ0_checkIndex_df160 2 none ∈ gW := gw_has (by decide +kernel)
theorem kc_C1 : .code yJ1_charAt_3b067 cJ1_charAt_3b067 2 (some .char) ∈ gW := gw_has (by decide +kernel)
theorem kc_Lt : .code yJ0_isLatin1_aae02 cJ0_isLatin1_aae02 1 (some .boolean) ∈ gW := gw_has (by decide +kernel)
theorem kc_Ch : .code yJ0_charAt_5068e cJ0_charAt_5068e 2 (some .char) ∈ gW := gw_has (by decide +kernel)
theorem kc_1 : .fieldLink RJ0 1053 "jdk/internal/util/Preconditions" "SIOOBE_FORMATTER" "Ljava/util/function/BiFunction;" ∈ gW := gw_has (by decide +kernel)
theorem kc_2 : .methodLink RJ0 1059 yJ3_checkIndex_8e157 ∈ gW := gw_has (by decide +kernel)
theorem kc_3 : .static yJ3_checkIndex_8e157 ∈ gW := gw_has (by decide +kernel)
theorem kc_4 : .initialized RJ3 ∈ gW := gw_has (by decide +kernel)
theorem kc_5 : .methodLink RJ1 9 yJ0_checkIndex_df160 ∈ gW := gw_has (by decide +kernel)
theorem kc_6 : .static yJ0_checkIndex_df160 ∈ gW := gw_has (by decide +kernel)
theorem kc_7 : .initialized RJ0 ∈ gW := gw_has (by decide +kernel)
theorem kc_8 : .fieldLink RJ0 38 "java/lang/String" "COMPACT_STRINGS" "Z" ∈ gW := gw_has (by decide +kernel)
theorem kc_9 : .fieldLink RJ0 15 "java/lang/String" "coder" "B" ∈ gW := gw_has (by decide +kernel)
theorem kc_10 : .fieldLink RJ0 9 "java/lang/String" "value" "[B" ∈ gW := gw_has (by decide +kernel)
theorem kc_11 : .methodLink RJ0 492 yJ0_isLatin1_aae02 ∈ gW := gw_has (by decide +kernel)
theorem kc_12 : .instanceMethod yJ0_isLatin1_aae02 ∈ gW := gw_has (by decide +kernel)
theorem kc_13 : .selects RJ0 yJ0_isLatin1_aae02 yJ0_isLatin1_aae02 ∈ gW := gw_has (by decide +kernel)
theorem kc_14 : .methodLink RJ0 495 yJ1_charAt_3b067 ∈ gW := gw_has (by decide +kernel)
theorem kc_15 : .static yJ1_charAt_3b067 ∈ gW := gw_has (by decide +kernel)
theorem kc_16 : .initialized RJ1 ∈ gW := gw_has (by decide +kernel)
theorem kc_17 : .instanceMethod yJ0_charAt_5068e ∈ gW := gw_has (by decide +kernel)
theorem kc_18 : .selects RJ0 yJ0_charAt_5068e yJ0_charAt_5068e ∈ gW := gw_has (by decide +kernel)
theorem gg_of {w : Cond} (h : w ∈ gW) : GoodIn gW (w :: gW) := fun v hv => by
  rcases List.mem_cons.mp hv with rfl | hv
  · exact ⟨h, good_of_word (List.mem_filter.mp h).2⟩
  · exact ⟨hv, good_of_word (List.mem_filter.mp hv).2⟩
theorem ts_of {w : Cond} {args : Array Value} {s : State} (h : ∀ v ∈ w :: gW, v.before args s = true) : ∀ v ∈ gW, v.before args s = true := fun v hv => h v (List.mem_cons_of_mem _ hv)
def Qn : Array Value → State → Outcome → State → Prop := fun _ st o t => o = .returned none ∧ t.heap = st.heap
theorem c_P (l : Launch) (i n : Int32) (v : Value) (hv : v.category = 1) (h0 : ¬ i < 0) (h1 : i < n) : Met l yJ3_checkIndex_8e157 wsP { frames := 0, cells := 0, slots := 0, locals := 0 } (va_Pc [.int i, .int n, v] fun _ => True) (QcRead i) 0 0 (fun _ => False) := by
  refine Met.ofW (cc := cJ3_checkIndex_8e157) (maxL := 3) (ret := some .int) (by decide) rfl ?_
  intro p e s m args below meth c s₁ B hml hP
  obtain ⟨rfl, -⟩ := hP
  have hx := B.exec
  have hb := B.bytes
  have hr := B.returns
  have hlocks := B.notSynchronized
  have hl := lv_entry ([.int i, .int n, v]) (n := 3) (by unfold lg_sl; simp only [List.flatMap_cons, List.flatMap_nil, hv]; exact Nat.le_refl 3)
  rw [lg_entry_eq]
  generalize (lg_sl ([.int i, .int n, v]) ++ List.replicate (3 - (lg_sl ([.int i, .int n, v])).length) Slot.unset).toArray = ls at hl ⊢
  have hl : lv_has ls 3 [(0, .int i), (1, .int n), (2, v)] := hl
  refine lv_iload_n (k := 0) hx hb dJ3_checkIndex_8e157_0 rfl (lv_at hl 0 rfl) ?_
  refine lv_if_lt (tgt := 9) (off := 8) hx hb dJ3_checkIndex_8e157_1 (by decide) (fun q => absurd q h0) (fun _ => ?_)
  refine lv_iload_n (k := 0) hx hb dJ3_checkIndex_8e157_4 rfl (lv_at hl 0 rfl) ?_
  refine lv_iload_n (k := 1) hx hb dJ3_checkIndex_8e157_5 rfl (lv_at hl 1 rfl) ?_
  refine lv_icmp_lt (tgt := 16) (off := 10) hx hb dJ3_checkIndex_8e157_6 (by decide) (fun _ => ?_) (fun q => absurd h1 q)
  refine lv_iload_n (k := 0) hx hb dJ3_checkIndex_8e157_16 rfl (lv_at hl 0 rfl) ?_
  exact W.iret (v := i) hx hb hr (fun t ht hW => ⟨rfl, ht⟩) (fun q hq => by cases hq) dJ3_checkIndex_8e157_17
theorem c_K (l : Launch) (i n : Int32) (h0 : ¬ i < 0) (h1 : i < n) : Met l yJ0_checkIndex_df160 wsK { frames := 1, cells := 0, slots := 0, locals := 22 } (va_Pc [.int i, .int n] fun U => va_Zq "jdk/internal/util/Preconditions" "SIOOBE_FORMATTER" "Ljava/util/function/BiFunction;" (oA base) U U.heap) Qn 0 0 (fun _ => False) := by
  refine Met.ofW (cc := cJ0_checkIndex_df160) (maxL := 2) (ret := none) (by decide) rfl ?_
  intro p e s m args below meth c s₁ B hml hP
  obtain ⟨rfl, hZ⟩ := hP
  have hx := B.exec
  have hb := B.bytes
  have hr := B.returns
  have hlocks := B.notSynchronized
  have hts0 := atoms_spec (ws := wsK) B.pre
  have hts := ts_of hts0
  have hown : s.vm.findClass RJ0 = some m.cls := findClass_of_methodNamed B.named
  have hl := lv_entry ([.int i, .int n]) (n := 2) (Nat.le_of_ble_eq_true rfl)
  rw [lg_entry_eq]
  generalize (lg_sl ([.int i, .int n]) ++ List.replicate (2 - (lg_sl ([.int i, .int n])).length) Slot.unset).toArray = ls at hl ⊢
  have hl : lv_has ls 2 [(0, .int i), (1, .int n)] := hl
  have key : ∀ v : Value, v.category = 1 → W p l e (headSpec wsK { frames := 1, cells := 0, slots := 0, locals := 22 }).room s m [Value.int i, Value.int n].toArray below meth c s.heap [] 0 0 (MQ below Qn [Value.int i, Value.int n].toArray s 0 0 (fun _ => False)) (F0 m 5 ls [v, .int n, .int i]) := by
    intro v hv
    refine W.callX (W.runS (As := [.int i, .int n, v]) (rest := []) ⟨hx, hb, hml, hown, hts⟩ (c_P l i n v hv h0 h1) ⟨callB_of 3 hts (gg_of kc_P) rfl rfl rfl (hts _ kc_4) (hts _ kc_2) (by decide +kernel) ⟨Nat.le_of_ble_eq_true rfl, Nat.le_of_ble_eq_true rfl⟩, hts _ kc_3⟩ ⟨fun _ _ _ _ q => q, fun U _ _ => ⟨rfl, trivial⟩⟩ rfl rfl hl.1 rfl (lv_room (Nat.le_of_ble_eq_true rfl)) dJ0_checkIndex_df160_5 ⟨Nat.le_refl 0, Nat.le_refl 0⟩) (fun _ h => h.elim) (fun r s0 t hs0 hQ => ?_)
    obtain ⟨hr2, ht⟩ := hQ
    cases hr2
    rw [ht, hs0]
    refine W.eq (g2 := F0 m 8 ls [.int i]) rfl ?_
    refine lv_pop (va := .int i) hx hb dJ0_checkIndex_df160_8 rfl ?_
    exact W.vret hx hb hr (fun t ht hW => ⟨rfl, ht⟩) (fun q hq => by cases hq) dJ0_checkIndex_df160_9
  refine lv_iload_n (k := 0) hx hb dJ0_checkIndex_df160_0 rfl (lv_at hl 0 rfl) ?_
  refine lv_iload_n (k := 1) hx hb dJ0_checkIndex_df160_1 rfl (lv_at hl 1 rfl) ?_
  rcases hZ with hZ | ⟨t, hZ⟩
  · exact va_gets hx hb hZ va_S.rf hown (hts _ kc_1) (fun _ h9 => h9) dJ0_checkIndex_df160_2 (key _ rfl)
  · exact va_gets hx hb hZ va_S.rf hown (hts _ kc_1) (fun _ h9 => h9) dJ0_checkIndex_df160_2 (key _ rfl)
theorem chr_and : ∀ n : Nat, n < 128 → ((Int32.ofInt n &&& 255).toUInt32 % 65536).toInt32 = Int32.ofInt n ∧ narrow .char (.int (Int32.ofInt n)) = .int (Int32.ofInt n) := by decide +kernel
theorem c_C1 (l : Launch) (a i : Int) (q : Nat) (f : Int → Int) (hf : ∀ i, 0 ≤ f i ∧ f i < 128) (h0 : 0 ≤ i) (h1 : i < 4) : Met l yJ1_charAt_3b067 wsC1 { frames := 2, cells := 0, slots := 0, locals := 43 } (va_Pc [.ref q, .int (Int32.ofInt i)] fun U => va_Zq "jdk/internal/util/Preconditions" "SIOOBE_FORMATTER" "Ljava/util/function/BiFunction;" (oA base) U U.heap ∧ va_T .byte q 4 (fun i => .int (Int32.ofInt (f i))) (oA base) U U.heap) (QcRead (Int32.ofInt (f i))) 0 0 (fun _ => False) := by
  refine Met.ofW (cc := cJ1_charAt_3b067) (maxL := 2) (ret := some .char) (by decide) rfl ?_
  intro p e s m args below meth c s₁ B hml hP
  obtain ⟨rfl, hZ, hT⟩ := hP
  have hi : inR i := by unfold inR; omega
  have hx := B.exec
  have hb := B.bytes
  have hr := B.returns
  have hlocks := B.notSynchronized
  have hts0 := atoms_spec (ws := wsC1) B.pre
  have hts := ts_of hts0
  have hown : s.vm.findClass RJ1 = some m.cls := findClass_of_methodNamed B.named
  have hl := lv_entry ([.ref q, .int (Int32.ofInt i)]) (n := 2) (Nat.le_of_ble_eq_true rfl)
  rw [lg_entry_eq]
  generalize (lg_sl ([.ref q, .int (Int32.ofInt i)]) ++ List.replicate (2 - (lg_sl ([.ref q, .int (Int32.ofInt i)])).length) Slot.unset).toArray = ls at hl ⊢
  have hl : lv_has ls 2 [(0, .ref q), (1, .int (Int32.ofInt i))] := hl
  have e4 : (4 : Int32) = Int32.ofInt 4 := by decide
  refine lv_iload_n (k := 1) hx hb dJ1_charAt_3b067_0 rfl (lv_at hl 1 rfl) ?_
  refine lv_aload_n (k := 0) hx hb dJ1_charAt_3b067_1 rfl (lv_at hl 0 rfl) ?_
  refine va_tlen (v := 4) hx hb hT va_S.rf (by decide) dJ1_charAt_3b067_2 ?_
  refine W.callX (W.runS (As := [.int (Int32.ofInt i), .int 4]) (rest := []) ⟨hx, hb, hml, hown, hts⟩ (c_K (base := base) l (Int32.ofInt i) 4 (fun z => by have := (i32_lt hi in_0).mp (by rw [i32_0]; exact z); omega) (by rw [e4]; exact (i32_lt hi (by unfold inR; omega)).mpr h1)) ⟨callB_of 2 hts (gg_of kc_K) rfl rfl rfl (hts _ kc_7) (hts _ kc_5) (by decide +kernel) ⟨Nat.le_of_ble_eq_true rfl, Nat.le_of_ble_eq_true rfl⟩, hts _ kc_6⟩ ⟨fun _ U g mk h => ⟨h.1, by
      rcases h.2 with h | ⟨t, h⟩
      · exact Or.inl (va_Z.moved (u := U) (U := U.calling g mk _) (Vm.Alike.refl U.vm) h)
      · exact Or.inr ⟨t, va_Z.moved (u := U) (U := U.calling g mk _) (Vm.Alike.refl U.vm) h⟩⟩, fun U hU hW => ⟨rfl, by
      show va_Zq _ _ _ _ U U.heap
      rw [hU]
      rcases hZ with h | ⟨t, h⟩
      · exact Or.inl (h.moved hW.alike)
      · exact Or.inr ⟨t, h.moved hW.alike⟩⟩⟩ rfl rfl hl.1 rfl (lv_room (Nat.le_of_ble_eq_true rfl)) dJ1_charAt_3b067_3 ⟨Nat.le_refl 0, Nat.le_refl 0⟩) (fun _ h => h.elim) (fun r s0 t hs0 hQ => ?_)
  obtain ⟨hr2, ht⟩ := hQ
  cases hr2
  rw [ht, hs0]
  refine W.eq (g2 := F0 m 6 ls []) rfl ?_
  refine lv_aload_n (k := 0) hx hb dJ1_charAt_3b067_6 rfl (lv_at hl 0 rfl) ?_
  refine lv_iload_n (k := 1) hx hb dJ1_charAt_3b067_7 rfl (lv_at hl 1 rfl) ?_
  refine va_tb (v := .int (Int32.ofInt (f i))) hx hb hT va_S.rf ((i32_vp hi).mpr ⟨h0, h1⟩) (by rw [i32_clamp hi, Int.toNat_of_nonneg h0]) dJ1_charAt_3b067_8 ?_
  refine lv_sipush (n := 255) (v := 255) hx hb dJ1_charAt_3b067_9 (by decide) ?_
  refine lv_iand hx hb dJ1_charAt_3b067_12 ?_
  obtain ⟨n, hn⟩ := Int.eq_ofNat_of_zero_le (hf i).1
  have hc := chr_and n (by have := (hf i).2; omega)
  rw [hn]
  refine lv_i2c (v := Int32.ofInt n) hx hb dJ1_charAt_3b067_13 hc.1 ?_
  exact W.zret (ty := .char) hx hb hr hc.2 (fun t ht hW => ⟨rfl, ht⟩) (fun q hq => by cases hq) dJ1_charAt_3b067_14
theorem c_Lt (l : Launch) (q : Nat) : Met l yJ0_isLatin1_aae02 wsLt { frames := 0, cells := 0, slots := 0, locals := 0 } (va_Pc [.ref q] fun U => va_Z "java/lang/String" "COMPACT_STRINGS" "Z" (.int 1) (oA base) U U.heap ∧ va_OF "java/lang/String" "coder" "B" (.int 0) q (oA base) U U.heap) (QcRead 1) 0 0 (fun _ => False) := by
  refine Met.ofW (cc := cJ0_isLatin1_aae02) (maxL := 1) (ret := some .boolean) (by decide) rfl ?_
  intro p e s m args below meth c s₁ B hml hP
  obtain ⟨rfl, hZ, hF⟩ := hP
  have hx := B.exec
  have hb := B.bytes
  have hr := B.returns
  have hlocks := B.notSynchronized
  have hts0 := atoms_spec (ws := wsLt) B.pre
  have hts := ts_of hts0
  have hown : s.vm.findClass RJ0 = some m.cls := findClass_of_methodNamed B.named
  have hl := lv_entry ([.ref q]) (n := 1) (Nat.le_of_ble_eq_true rfl)
  rw [lg_entry_eq]
  generalize (lg_sl ([.ref q]) ++ List.replicate (1 - (lg_sl ([.ref q])).length) Slot.unset).toArray = ls at hl ⊢
  have hl : lv_has ls 1 [(0, .ref q)] := hl
  refine va_gets hx hb hZ va_S.rf hown (hts _ kc_8) (fun _ h9 => h9) dJ0_isLatin1_aae02_0 ?_
  refine lv_if_eq (tgt := 17) (off := 14) hx hb dJ0_isLatin1_aae02_3 (by decide) (fun q => absurd q (by decide)) (fun _ => ?_)
  refine lv_aload_n (k := 0) hx hb dJ0_isLatin1_aae02_6 rfl (lv_at hl 0 rfl) ?_
  refine vk_getf hx hb hF va_S.rf hown (hts _ kc_9) (fun _ h9 => h9) dJ0_isLatin1_aae02_7 ?_
  refine lv_if_ne (tgt := 17) (off := 7) hx hb dJ0_isLatin1_aae02_10 (by decide) (fun q => absurd rfl q) (fun _ => ?_)
  refine lv_iconst (n := 1) (v := 1) hx hb dJ0_isLatin1_aae02_13 (by decide) ?_
  refine lv_goto (tgt := 18) (off := 4) hx hb dJ0_isLatin1_aae02_14 (by decide) ?_
  exact W.zret (ty := .boolean) hx hb hr rfl (fun t ht hW => ⟨rfl, ht⟩) (fun q hq => by cases hq) dJ0_isLatin1_aae02_18
theorem c_Ch (l : Launch) (j : Nat) (i : Int) (hj : 7 ≤ j) (hj2 : j < 9) (h0 : 0 ≤ i) (h1 : i < 4) : Met l yJ0_charAt_5068e wsCh { frames := 3, cells := 0, slots := 0, locals := 64 } (va_Pc [.ref (adC j), .int (Int32.ofInt i)] fun U => KS base adC adV ce U U.heap) (QcRead (Int32.ofInt ((ce j).2 i))) 0 0 (fun _ => False) := by
  refine Met.ofW (cc := cJ0_charAt_5068e) (maxL := 2) (ret := some .char) (by decide) rfl ?_
  intro p e s m args below meth c s₁ B hml hP
  obtain ⟨rfl, -, hZ, hZq, hS⟩ := hP
  obtain ⟨⟨hlen, hf⟩, hO, hco, hva, hT⟩ := hS j hj hj2
  have hi : inR i := by unfold inR; omega
  have hx := B.exec
  have hb := B.bytes
  have hr := B.returns
  have hlocks := B.notSynchronized
  have hts0 := atoms_spec (ws := wsCh) B.pre
  have hts := ts_of hts0
  have hown : s.vm.findClass RJ0 = some m.cls := findClass_of_methodNamed B.named
  have hl := lv_entry ([.ref (adC j), .int (Int32.ofInt i)]) (n := 2) (Nat.le_of_ble_eq_true rfl)
  rw [lg_entry_eq]
  generalize (lg_sl ([.ref (adC j), .int (Int32.ofInt i)]) ++ List.replicate (2 - (lg_sl ([.ref (adC j), .int (Int32.ofInt i)])).length) Slot.unset).toArray = ls at hl ⊢
  have hl : lv_has ls 2 [(0, .ref (adC j)), (1, .int (Int32.ofInt i))] := hl
  refine lv_aload_n (k := 0) hx hb dJ0_charAt_5068e_0 rfl (lv_at hl 0 rfl) ?_
  obtain ⟨cell, o1, o2, o3, -⟩ := hO
  refine W.callX (W.runV (C := RJ0) (b := adC j) (As := []) (rest := []) ⟨hx, hb, hml, hown, hts⟩ (c_Lt (base := base) l (adC j)) ⟨callB_of 0 hts (gg_of kc_Lt) rfl rfl rfl (hts _ kc_7) (hts _ kc_11) (by decide +kernel) ⟨Nat.le_of_ble_eq_true rfl, Nat.le_of_ble_eq_true rfl⟩, hts _ kc_12, hts _ kc_13⟩ ⟨fun _ U g mk h => ⟨h.1, va_Z.moved (u := U) (U := U.calling g mk _) (Vm.Alike.refl U.vm) h.2.1, va_OF.moved (u := U) (U := U.calling g mk _) (Vm.Alike.refl U.vm) h.2.2⟩, ⟨cell, o1, o2, o3⟩, fun U hU hW => ⟨rfl, by rw [hU]; exact hZ.moved hW.alike, by rw [hU]; exact hco.moved hW.alike⟩⟩ rfl rfl hl.1 rfl (lv_room (Nat.le_of_ble_eq_true rfl)) dJ0_charAt_5068e_1 ⟨Nat.le_refl 0, Nat.le_refl 0⟩) (fun _ h => h.elim) (fun r s0 t hs0 hQ => ?_)
  obtain ⟨hr2, ht⟩ := hQ
  cases hr2
  rw [ht, hs0]
  refine W.eq (g2 := F0 m 4 ls [.int 1]) rfl ?_
  refine lv_if_eq (x := 1) (tgt := 16) (off := 12) hx hb dJ0_charAt_5068e_4 (by decide) (fun q => absurd q (by decide)) (fun _ => ?_)
  refine lv_aload_n (k := 0) hx hb dJ0_charAt_5068e_7 rfl (lv_at hl 0 rfl) ?_
  refine vk_getf hx hb hva va_S.rf hown (hts _ kc_10) (fun _ h9 => h9) dJ0_charAt_5068e_8 ?_
  refine lv_iload_n (k := 1) hx hb dJ0_charAt_5068e_11 rfl (lv_at hl 1 rfl) ?_
  refine W.callX (W.runS (As := [.ref (adV j), .int (Int32.ofInt i)]) (rest := []) ⟨hx, hb, hml, hown, hts⟩ (c_C1 (base := base) l 0 i (adV j) (ce j).2 hf h0 h1) ⟨callB_of 2 hts (gg_of kc_C1) rfl rfl rfl (hts _ kc_16) (hts _ kc_14) (by decide +kernel) ⟨Nat.le_of_ble_eq_true rfl, Nat.le_of_ble_eq_true rfl⟩, hts _ kc_15⟩ ⟨fun _ U g mk h => ⟨h.1, by
      rcases h.2.1 with h | ⟨t, h⟩
      · exact Or.inl (va_Z.moved (u := U) (U := U.calling g mk _) (Vm.Alike.refl U.vm) h)
      · exact Or.inr ⟨t, va_Z.moved (u := U) (U := U.calling g mk _) (Vm.Alike.refl U.vm) h⟩, va_T.moved (u := U) (U := U.calling g mk _) (Vm.Alike.refl U.vm) h.2.2⟩, fun U hU hW => ⟨rfl, by
      show va_Zq _ _ _ _ U U.heap
      rw [hU]
      rcases hZq with h | ⟨t, h⟩
      · exact Or.inl (h.moved hW.alike)
      · exact Or.inr ⟨t, h.moved hW.alike⟩, by rw [hU]; exact hT.moved hW.alike⟩⟩ rfl rfl hl.1 rfl (lv_room (Nat.le_of_ble_eq_true rfl)) dJ0_charAt_5068e_12 ⟨Nat.le_refl 0, Nat.le_refl 0⟩) (fun _ h => h.elim) (fun r s0 t hs0 hQ => ?_)
  obtain ⟨hr2, ht⟩ := hQ
  cases hr2
  rw [ht, hs0]
  refine W.eq (g2 := F0 m 15 ls [.int (Int32.ofInt ((ce j).2 i))]) rfl ?_
  obtain ⟨n, hn⟩ := Int.eq_ofNat_of_zero_le (hf i).1
  have hc := chr_and n (by have := (hf i).2; omega)
  refine W.zret (v := Int32.ofInt ((ce j).2 i)) (ty := .char) hx hb hr (by rw [hn]; exact hc.2) (fun t ht hW => ⟨rfl, ht⟩) (fun q hq => by cases hq) dJ0_charAt_5068e_15
end CHR
section ST7
variable {base : Nat} {adC adV : Nat → Nat} {cI : ClassId} {D : va_G} {ce : Cx} {l : Launch} {lim : Nat × Nat} {y d : Nat} {p : Program} {e : Env} {R : Room} {s : State} {m : MethodId} {args : Array Value} {below : List Frame} {meth : Method} {c : Code} {Z : State → Prop} {n0 s0 : Nat} {pc : Nat} {L S : List Vx} {M : Mx} {k : Kx} {K : Nat → Kx}
theorem s_char {idx : Nat} (hlim : lim = (n0 + R.cells, s0 + R.slots)) (hlnk : .methodLink (mN y).cls idx ⟨"java/lang/String", "charAt", "(I)C"⟩ ∈ gW) (hC : CX base adC adV cI D ce y d p R s m args meth c) (hd : decode (mC y) pc = .ok (.invokevirtual idx, 3)) (hw : wf3 L S M) (h : match (generalizing := false) S with | .inl i :: .inr (.inr (.inr j)) :: S => szS S ≤ 8 ∧ ((7 ≤ j ∧ j < 9) ∧ 0 ≤ i ∧ i < (ce j).1) ∧ k L (.inl ((ce j).2 i) :: S) M | _ => False) (hk : ∀ L' S' M', wf3 L' S' M' → k L' S' M' → AtW base adC cI D l lim y p e R s m args below meth c Z n0 s0 (pc + 3) L' S' M') : AtW base adC cI D l lim y p e R s m args below meth c Z n0 s0 pc L S M := by
  intro H locs cells slots ls hR hS h1 h2 h3 h4 hL
  obtain ⟨hx, hb, hml, hown, hts, hKK, hKF, hnm, hrt, hlk0, hfr, hlo, hbs⟩ := hC
  rcases S with _ | ⟨v | v | v | v, S⟩ <;> try exact h.elim
  rcases S with _ | ⟨w | w | w | w, S⟩ <;> try exact h.elim
  obtain ⟨hsz, ⟨⟨g1, g2⟩, g3, g4⟩, h⟩ := h
  obtain ⟨⟨hlen, hf⟩, hO, -⟩ := hKF.2.2.2.2.2.2 w g1 g2
  rw [hlen] at g4
  obtain ⟨j, rfl⟩ : ∃ j, w = j + 1 := ⟨w - 1, by omega⟩
  obtain ⟨cell, o1, o2, o3, -⟩ := hO.kept hS.2.1
  rw [hlim] at h3 h4
  simp only at h3 h4
  refine W.callX (W.runV (C := RJ0) (b := adC (j + 1)) (As := [.int (Int32.ofInt v)]) (rest := S.map (cv base adC)) ⟨hx, hb, hml, hown, hts⟩ (c_Ch (base := base) (adC := adC) (adV := adV) (ce := ce) l (j + 1) v g1 g2 g3 g4) ⟨callB_of 1 hts (gg_of kc_Ch) rfl rfl rfl (hts _ kc_7) (hts _ hlnk) (by decide +kernel) ⟨by show 3 + 1 ≤ _; omega, by show 8 + (2 + 11) + 64 ≤ _; omega⟩, hts _ kc_17, hts _ kc_18⟩ ⟨fun _ U g mk hq => ⟨hq.1, ?_⟩, ⟨cell, o1, o2, o3⟩, fun U hU hW => ⟨rfl, ?_⟩⟩ rfl rfl (by exact hL.2.1) rfl (lv_room (by rw [szS_cat]; exact hsz)) hd ⟨by omega, by omega⟩) (fun _ hq => hq.elim) (fun r s0 t hs0 hQ => ?_)
  · obtain ⟨q1, q2, q3, q4⟩ := hq.2
    exact ⟨fun q hq => vk_R.warm (s := U) (U := U.calling g mk _) (State.WarmedH.refl U) (q1 q hq), va_Z.moved (u := U) (U := U.calling g mk _) (Vm.Alike.refl U.vm) q2, by
      rcases q3 with h | ⟨t, h⟩
      · exact Or.inl (va_Z.moved (u := U) (U := U.calling g mk _) (Vm.Alike.refl U.vm) h)
      · exact Or.inr ⟨t, va_Z.moved (u := U) (U := U.calling g mk _) (Vm.Alike.refl U.vm) h⟩, fun j a b => by
      obtain ⟨f1, f2, f3, f4, f5⟩ := q4 j a b
      exact ⟨f1, va_O.moved (u := U) (U := U.calling g mk _) (Vm.Alike.refl U.vm) f2, va_OF.moved (u := U) (U := U.calling g mk _) (Vm.Alike.refl U.vm) f3, va_OF.moved (u := U) (U := U.calling g mk _) (Vm.Alike.refl U.vm) f4, va_T.moved (u := U) (U := U.calling g mk _) (Vm.Alike.refl U.vm) f5⟩⟩
  · have := (KF.kept (KF.moved hW hKF) (H' := U.heap) (fun x hx1 hx2 => by rw [hU]; exact hS.2.1 x hx1 hx2)).2.2.2
    exact this
  · obtain ⟨hr2, ht⟩ := hQ
    cases hr2
    rw [ht, hs0]
    exact hk _ _ _ (wf_ci (wf_tl (wf_tl hw)) (by have := hf v; unfold inR; omega)) h H locs cells slots ls hR hS h1 h2 (by rw [hlim]; exact h3) (by rw [hlim]; exact h4) hL
end ST7
