/-! what holds in every state of the run: the words; the constants of the JDK's that a throw reads; the texts -/
abbrev GG : Type := Nat × (Nat → Nat) × (Nat → Nat)
def ax_len : List Nat := [9]
def ax_byt : List (List Int32) := [[46, 37, 35, 62, 125, 94, 126, 60, 123]]
def ax_txt : String := ".%#>}^~<{"
def xTx : List (Nat × String) := [(272, "no such node"), (279, "out of range"), (85, "the tree is full"), (100, "the root stays"), (111, "the parent is the node or below it"), (281, "the index is negative"), (151, "the text is full"), (275, "no such place"), (277, "no query at this place"), (189, "too many paths"), (227, "no such rule"), (234, "nothing is saved")]
def Gb (γ : GG) (U : State) : Prop :=
  Wd U ∧ vx_Zq Bundle.tN "UNASSIGNED_STACK" Bundle.steD (fun q => γ.1 ≤ q) U U.heap ∧ vx_Zq Bundle.tN "SUPPRESSED_SENTINEL" Bundle.listD (fun q => γ.1 ≤ q) U U.heap ∧
  (∀ q ∈ xTx, ∃ a, vk_R RX11 q.1 q.2 a U) ∧
  va_Z "java/lang/String" "COMPACT_STRINGS" "Z" (.int 1) (fun q => γ.1 ≤ q) U U.heap ∧ va_Zq "jdk/internal/util/Preconditions" "SIOOBE_FORMATTER" "Ljava/util/function/BiFunction;" (fun q => γ.1 ≤ q) U U.heap ∧
  vk_S 1 ax_len ax_byt γ.2.1 γ.2.2 (fun q => γ.1 ≤ q) U U.heap ∧ vk_R RX9 19 ax_txt (γ.2.1 0) U ∧ vk_R RX3 152 ax_txt (γ.2.1 0) U ∧
  (va_AO "TreeQueries$Path" U ∧ va_AO "TreeQueries$Query" U ∧ va_AO "TreeQueries$State" U ∧ va_AO "TreeQueries$Step" U)
theorem Gb.warm {γ : GG} {s U : State} (hW : s.WarmedH U.vm) (hq : ∀ a : Nat, a < s.heap.size → ¬ γ.1 ≤ a → U.heap[a]? = s.heap[a]?) (h : Gb γ s) : Gb γ U := by
  obtain ⟨h1, h2, h3, h4, h5, h6, h7, h8, h9, h10, h11, h12, h13⟩ := h
  have A := hW.alike
  exact ⟨h1.warm hW, (vx_Zq.moved A h2).kept hq, (vx_Zq.moved A h3).kept hq, fun q hq => by obtain ⟨a, h⟩ := h4 q hq; exact ⟨a, h.warm hW⟩, (va_Z.moved A h5).kept hq, (va_Zq.moved A h6).kept hq, (vk_S.moved A h7).kept hq, h8.warm hW, h9.warm hW, h10.moved A, h11.moved A, h12.moved A, h13.moved A⟩
/-! a method: its name, bytes, locals, answer, table -/
abbrev MD : Type := MethodName × ByteArray × Nat × Option FieldType × List (Nat × Nat × Nat × Nat)
abbrev AR : Type := Option AV ⊕ String
abbrev lc (q : Nat × AV) : Nat × Value := (q.1, cV q.2)
/-- the next cell's place, where told: no later than the room left says; the cell ahead of it lies in the heap -/
def NX (γ : GG) (h : AH) (b kc : Nat) (Zn : Prop) : Prop := (∀ n, nx h = some n → (n ≤ γ.1 ∨ (kd h (n - 1)).isSome = true) ∧ b ≤ n + kc) ∧ (Zn → nx h = none)
def QcO (γ : GG) (D : va_G) (E : Nat → ClassId) (kc : Nat) (Zn : Prop) (Q : AR → AH → Prop) : Array Value → State → Outcome → State → Prop := fun _ st o t => ∃ (v : Option AV) (h' : AH), o = .returned (v.map cV) ∧ Q (.inl v) h' ∧ RelH D E γ.1 h' t.heap ∧ va_F (fun q => γ.1 ≤ q) st t ∧ NX γ h' (st.heap.size + kc) 0 Zn
def XcO (γ : GG) (D : va_G) (E : Nat → ClassId) (Q : AR → AH → Prop) : String → State → State → Prop := fun X st t => ∃ h' : AH, Q (.inr X) h' ∧ RelH D E γ.1 h' t.heap ∧ va_F (fun q => γ.1 ≤ q) st t ∧ nx h' = none
def PcO (γ : GG) (D : va_G) (E : Nat → ClassId) (as : List AV) (h : AH) : Array Value → State → Prop := fun v U => v = (as.map cV).toArray ∧ Gb γ U ∧ va_K D vwCl (tysE E) U ∧ RelH D E γ.1 h U.heap ∧ γ.1 ≤ U.heap.size ∧ NX γ h U.heap.size 0 False
def mCode (M : MD) : Cond := if M.2.2.2.2 = [] then .code M.1 M.2.1 M.2.2.1 M.2.2.2.1 else .codeWith M.1 M.2.1 M.2.2.1 M.2.2.2.1 M.2.2.2.2
def rmO (d kc ks : Nat) : Room := { frames := d, cells := kc, slots := ks, locals := 40 * d }
/-- called in this abstract state, the method comes to Q; d: how deep its calls go; kc, ks: what it may make -/
def Call (γ : GG) (M : MD) (d kc ks : Nat) (as : List AV) (h : AH) (Q : AR → AH → Prop) : Prop :=
  ∀ (l : Launch) (D : va_G) (E : Nat → ClassId), l.stackTraces = false → vx_Met l M.1 [mCode M] (rmO d kc ks) (PcO γ D E as h) (QcO γ D E kc (nx h = none) Q) (XcO γ D E Q) kc ks (fun q => γ.1 ≤ q)
def Fx (γ : GG) (M : MD) (d : Nat) (p : Program) (l : Launch) (R : Room) (s : State) (m : MethodId) (meth : Method) (c : Code) (D : va_G) (E : Nat → ClassId) (Zn : Prop) (mc ms : Nat) : Prop :=
  p.tables.exec = Jvm.exec ∧ c.code = M.2.1 ∧ meth.sig.returnType = M.2.2.2.1 ∧ c.maxLocals = M.2.2.1 ∧ s.vm.findClass M.1.cls = some m.cls ∧ meth.locks = false ∧ meth.name = M.1.name ∧ c.exceptionTable.toList = tableOf M.2.2.2.2 ∧ l.stackTraces = false ∧ Gb γ s ∧ d ≤ R.frames ∧ 40 * d ≤ R.locals ∧ mc ≤ R.cells ∧ ms ≤ R.slots ∧ va_K D vwCl (tysE E) s ∧ γ.1 ≤ s.heap.size
def Mv (γ : GG) (M : MD) (kc ks : Nat) (ls : List (Nat × AV)) (h : AH) (s : State) (H : Heap) (locs : List Loc) (cells slots : Nat) (lsM : Array Slot) (D : va_G) (E : Nat → ClassId) (Zn : Prop) (mc ms : Nat) : Prop :=
  cells + kc ≤ mc ∧ slots + ks ≤ ms ∧ RelH D E γ.1 h H ∧ va_S (fun q => γ.1 ≤ q) s.heap H locs ∧ lv_has lsM M.2.2.1 (ls.map lc) ∧ NX γ h (s.heap.size + mc) kc Zn
def AW (γ : GG) (M : MD) (d kc ks pc : Nat) (ls : List (Nat × AV)) (st : List AV) (h : AH) (Q : AR → AH → Prop) : Prop :=
  ∀ (p : Program) (l : Launch) (e : Env) (R : Room) (s : State) (m : MethodId) (args : Array Value) (below : List Frame) (meth : Method) (c : Code) (D : va_G) (E : Nat → ClassId) (Zn : Prop) (mc ms : Nat) (H : Heap) (locs : List Loc) (cells slots : Nat) (lsM : Array Slot),
    Fx γ M d p l R s m meth c D E Zn mc ms → Mv γ M kc ks ls h s H locs cells slots lsM D E Zn mc ms → W p l e R s m args below meth c H locs cells slots (vx_MQ below (QcO γ D E mc Zn Q) (XcO γ D E Q) args s mc ms (fun q => γ.1 ≤ q)) (F0 m pc lsM (st.map cV))
section AWR
variable {γ : GG} {M : MD} {d kc ks pc : Nat} {ls : List (Nat × AV)} {st : List AV} {h : AH} {Q : AR → AH → Prop}
theorem Fx.ts {p : Program} {l : Launch} {R : Room} {s : State} {m : MethodId} {meth : Method} {c : Code} {D : va_G} {E : Nat → ClassId} {Zn : Prop} {mc ms : Nat} (F : Fx γ M d p l R s m meth c D E Zn mc ms) {w : Cond} (hm : w ∈ lw_tbl) (ho : okw w = true) {args : Array Value} : w.before args s = true := F.2.2.2.2.2.2.2.2.2.1.1.use hm ho
theorem i32_in {a : Int} (ha : -2147483648 ≤ a ∧ a ≤ 2147483647) : (Int32.ofInt a).toInt = a := Int32.toInt_ofInt_of_le (by simpa using ha.1) (by have := ha.2; omega)
theorem i32_lt {a b : Int} (ha : -2147483648 ≤ a ∧ a ≤ 2147483647) (hb : -2147483648 ≤ b ∧ b ≤ 2147483647) : Int32.ofInt a < Int32.ofInt b ↔ a < b := by rw [Int32.lt_iff_toInt_lt, i32_in ha, i32_in hb]
theorem i32_le {a b : Int} (ha : -2147483648 ≤ a ∧ a ≤ 2147483647) (hb : -2147483648 ≤ b ∧ b ≤ 2147483647) : Int32.ofInt a ≤ Int32.ofInt b ↔ a ≤ b := by rw [Int32.le_iff_toInt_le, i32_in ha, i32_in hb]
theorem i32_eq {a b : Int} (ha : -2147483648 ≤ a ∧ a ≤ 2147483647) (hb : -2147483648 ≤ b ∧ b ≤ 2147483647) : Int32.ofInt a = Int32.ofInt b ↔ a = b := by
  constructor
  · intro q
    have := congrArg Int32.toInt q
    rwa [i32_in ha, i32_in hb] at this
  · intro q; rw [q]
theorem i32_z : (0 : Int32) = Int32.ofInt 0 := rfl
theorem i32_clamp {j : Int} {n : Nat} (h0 : 0 ≤ j) (h1 : j < n) (hn : n ≤ 2147483647) : vp_in (Int32.ofInt j) n ∧ ((Int32.ofInt j).toNatClampNeg : Int) = j := by
  have e : (Int32.ofInt j).toInt = j := i32_in ⟨by omega, by omega⟩
  have e2 : (Int32.ofInt j).toNatClampNeg = j.toNat := by show (Int32.ofInt j).toInt.toNat = _; rw [e]
  refine ⟨?_, by rw [e2]; omega⟩
  rintro (q | q)
  · rw [i32_z, i32_lt ⟨by omega, by omega⟩ ⟨by omega, by omega⟩] at q
    omega
  · rw [e2] at q
    omega

theorem i32_n (n : Nat) : Int32.ofInt (n : Int) = Int32.ofNat n := rfl
theorem aw_iconst {n : Int} (hd : decode M.2.1 pc = .ok (.iconst n, 1)) (k : AW γ M d kc ks (pc + 1) ls (vi n :: st) h Q) : AW γ M d kc ks pc ls st h Q := by
  intro p l e R s m args below meth c D E Zn mc ms H locs cells slots lsM F V
  exact lv_iconst F.1 F.2.1 hd rfl (k p l e R s m args below meth c D E Zn mc ms H locs cells slots lsM F V)
theorem aw_bipush {n : Int} (hd : decode M.2.1 pc = .ok (.bipush n, 2)) (hn : (Int8.ofInt n).toInt32 = Int32.ofInt n) (k : AW γ M d kc ks (pc + 2) ls (vi n :: st) h Q) : AW γ M d kc ks pc ls st h Q := by
  intro p l e R s m args below meth c D E Zn mc ms H locs cells slots lsM F V
  exact lv_bipush F.1 F.2.1 hd hn (k p l e R s m args below meth c D E Zn mc ms H locs cells slots lsM F V)
theorem aw_sipush {n : Int} (hd : decode M.2.1 pc = .ok (.sipush n, 3)) (hn : (Int16.ofInt n).toInt32 = Int32.ofInt n) (k : AW γ M d kc ks (pc + 3) ls (vi n :: st) h Q) : AW γ M d kc ks pc ls st h Q := by
  intro p l e R s m args below meth c D E Zn mc ms H locs cells slots lsM F V
  exact lv_sipush F.1 F.2.1 hd hn (k p l e R s m args below meth c D E Zn mc ms H locs cells slots lsM F V)
theorem aw_lconst {n : Fin 2} {v : Int64} (hd : decode M.2.1 pc = .ok (.lconst n, 1)) (hv : Int64.ofNat (n : Nat) = v) (k : AW γ M d kc ks (pc + 1) ls (vl v :: st) h Q) : AW γ M d kc ks pc ls st h Q := by
  intro p l e R s m args below meth c D E Zn mc ms H locs cells slots lsM F V
  exact lv_lconst F.1 F.2.1 hd hv (k p l e R s m args below meth c D E Zn mc ms H locs cells slots lsM F V)
theorem aw_ldc {index : Nat} {v : Int} (hd : decode M.2.1 pc = .ok (.ldc index, 2)) (hc : Cond.constant M.1.cls index (Int32.ofInt v) ∈ lw_tbl) (k : AW γ M d kc ks (pc + 2) ls (vi v :: st) h Q) : AW γ M d kc ks pc ls st h Q := by
  intro p l e R s m args below meth c D E Zn mc ms H locs cells slots lsM F V
  exact lv_ldc F.1 F.2.1 F.2.2.2.2.1 (F.ts hc rfl) hd (k p l e R s m args below meth c D E Zn mc ms H locs cells slots lsM F V)
theorem aw_ldcw {index : Nat} {v : Int} (hd : decode M.2.1 pc = .ok (.ldc_w index, 3)) (hc : Cond.constant M.1.cls index (Int32.ofInt v) ∈ lw_tbl) (k : AW γ M d kc ks (pc + 3) ls (vi v :: st) h Q) : AW γ M d kc ks pc ls st h Q := by
  intro p l e R s m args below meth c D E Zn mc ms H locs cells slots lsM F V
  exact lv_ldcw F.1 F.2.1 F.2.2.2.2.1 (F.ts hc rfl) hd (k p l e R s m args below meth c D E Zn mc ms H locs cells slots lsM F V)
theorem aw_ldc2 {index : Nat} {v : Int64} (hd : decode M.2.1 pc = .ok (.ldc2_w index, 3)) (hc : Cond.constantLong M.1.cls index v ∈ lw_tbl) (k : AW γ M d kc ks (pc + 3) ls (vl v :: st) h Q) : AW γ M d kc ks pc ls st h Q := by
  intro p l e R s m args below meth c D E Zn mc ms H locs cells slots lsM F V
  exact lv_ldc2 F.1 F.2.1 F.2.2.2.2.1 (F.ts hc rfl) hd (k p l e R s m args below meth c D E Zn mc ms H locs cells slots lsM F V)
theorem lc_get {lsM : Array Slot} {nL i : Nat} {v : AV} (hl : lv_has lsM nL (ls.map lc)) (hi : (ls.find? (fun q => q.1 == i)).map (fun q => q.2) = some v) : lsM[i]? = some (.val (cV v)) := by
  cases hf : ls.find? (fun q => q.1 == i) with
  | none => rw [hf] at hi; cases hi
  | some q =>
    rw [hf] at hi
    have e1 := List.find?_some hf
    have e2 := List.mem_of_find?_eq_some hf
    cases hi
    have : q.1 = i := by simpa using e1
    subst this
    exact hl.2.2 (lc q) (List.mem_map.mpr ⟨q, e2, rfl⟩)
theorem aw_iload {i : Nat} {x : Int} (hd : decode M.2.1 pc = .ok (.iload i, 2)) (hi : (ls.find? (fun q => q.1 == i)).map (fun q => q.2) = some (vi x)) (k : AW γ M d kc ks (pc + 2) ls ((vi x) :: st) h Q) : AW γ M d kc ks pc ls st h Q := by
  intro p l e R s m args below meth c D E Zn mc ms H locs cells slots lsM F V
  exact lv_iload F.1 F.2.1 hd (lc_get V.2.2.2.2.1 hi) (k p l e R s m args below meth c D E Zn mc ms H locs cells slots lsM F V)
theorem aw_iload_n {k4 : Fin 4} {x : Int} (hd : decode M.2.1 pc = .ok (.iload_n k4, 1)) (hi : (ls.find? (fun q => q.1 == (k4 : Nat))).map (fun q => q.2) = some (vi x)) (k : AW γ M d kc ks (pc + 1) ls ((vi x) :: st) h Q) : AW γ M d kc ks pc ls st h Q := by
  intro p l e R s m args below meth c D E Zn mc ms H locs cells slots lsM F V
  exact lv_iload_n F.1 F.2.1 hd rfl (lc_get V.2.2.2.2.1 hi) (k p l e R s m args below meth c D E Zn mc ms H locs cells slots lsM F V)
theorem aw_lload {i : Nat} {x : Int64} (hd : decode M.2.1 pc = .ok (.lload i, 2)) (hi : (ls.find? (fun q => q.1 == i)).map (fun q => q.2) = some (vl x)) (k : AW γ M d kc ks (pc + 2) ls ((vl x) :: st) h Q) : AW γ M d kc ks pc ls st h Q := by
  intro p l e R s m args below meth c D E Zn mc ms H locs cells slots lsM F V
  exact lv_lload F.1 F.2.1 hd (lc_get V.2.2.2.2.1 hi) (k p l e R s m args below meth c D E Zn mc ms H locs cells slots lsM F V)
theorem aw_lload_n {k4 : Fin 4} {x : Int64} (hd : decode M.2.1 pc = .ok (.lload_n k4, 1)) (hi : (ls.find? (fun q => q.1 == (k4 : Nat))).map (fun q => q.2) = some (vl x)) (k : AW γ M d kc ks (pc + 1) ls ((vl x) :: st) h Q) : AW γ M d kc ks pc ls st h Q := by
  intro p l e R s m args below meth c D E Zn mc ms H locs cells slots lsM F V
  exact lv_lload_n F.1 F.2.1 hd rfl (lc_get V.2.2.2.2.1 hi) (k p l e R s m args below meth c D E Zn mc ms H locs cells slots lsM F V)
theorem aw_aload {i : Nat} {x : Nat} (hd : decode M.2.1 pc = .ok (.aload i, 2)) (hi : (ls.find? (fun q => q.1 == i)).map (fun q => q.2) = some (vr (some x))) (k : AW γ M d kc ks (pc + 2) ls ((vr (some x)) :: st) h Q) : AW γ M d kc ks pc ls st h Q := by
  intro p l e R s m args below meth c D E Zn mc ms H locs cells slots lsM F V
  exact lv_aload F.1 F.2.1 hd (lc_get V.2.2.2.2.1 hi) (k p l e R s m args below meth c D E Zn mc ms H locs cells slots lsM F V)
theorem aw_aload_n {k4 : Fin 4} {x : Nat} (hd : decode M.2.1 pc = .ok (.aload_n k4, 1)) (hi : (ls.find? (fun q => q.1 == (k4 : Nat))).map (fun q => q.2) = some (vr (some x))) (k : AW γ M d kc ks (pc + 1) ls ((vr (some x)) :: st) h Q) : AW γ M d kc ks pc ls st h Q := by
  intro p l e R s m args below meth c D E Zn mc ms H locs cells slots lsM F V
  exact lv_aload_n F.1 F.2.1 hd rfl (lc_get V.2.2.2.2.1 hi) (k p l e R s m args below meth c D E Zn mc ms H locs cells slots lsM F V)
theorem lc_cat (v : AV) : ((cV v).category == 2) = isL v := by
  rcases v with z | x | o
  · rfl
  · rfl
  · cases o <;> rfl
theorem lc_set1 (i : Nat) (v : AV) : ((i, cV v) :: (ls.map lc).filter (fun q => !(q.1 == i) && !(q.1 + 1 == i && q.2.category == 2))) = ((i, v) :: ls.filter (fun q => !(q.1 == i) && !(q.1 + 1 == i && isL q.2))).map lc := by
  rw [List.map_cons, List.filter_map]
  congr 1
  congr 1
  apply List.filter_congr
  intro q _
  simp only [Function.comp, lc_cat]
theorem lc_set2 (i : Nat) (v : AV) : ((i, cV v) :: (ls.map lc).filter (fun q => !(q.1 == i) && (!(q.1 == i + 1) && !(q.1 + 1 == i && q.2.category == 2)))) = ((i, v) :: ls.filter (fun q => !(q.1 == i) && (!(q.1 == i + 1) && !(q.1 + 1 == i && isL q.2)))).map lc := by
  rw [List.map_cons, List.filter_map]
  congr 1
  congr 1
  apply List.filter_congr
  intro q _
  simp only [Function.comp, lc_cat]
theorem aw_istore {i : Nat} {x : Int} {ls1 : List (Nat × AV)} (hd : decode M.2.1 pc = .ok (.istore i, 2)) (hn : i < M.2.2.1) (he : (i, (vi x)) :: ls.filter (fun q => !(q.1 == i) && !(q.1 + 1 == i && isL q.2)) = ls1) (k : AW γ M d kc ks (pc + 2) ls1 st h Q) : AW γ M d kc ks pc ls ((vi x) :: st) h Q := by
  intro p l e R s m args below meth c D E Zn mc ms H locs cells slots lsM F V
  exact lv_istore F.1 F.2.1 hd V.2.2.2.2.1 hn (lc_set1 i (vi x)) (fun ls9 hl9 => by subst he; exact k p l e R s m args below meth c D E Zn mc ms H locs cells slots ls9 F ⟨V.1, V.2.1, V.2.2.1, V.2.2.2.1, hl9, V.2.2.2.2.2⟩)
theorem aw_istore_n {k4 : Fin 4} {x : Int} {ls1 : List (Nat × AV)} (hd : decode M.2.1 pc = .ok (.istore_n k4, 1)) (hn : (k4 : Nat) < M.2.2.1) (he : ((k4 : Nat), (vi x)) :: ls.filter (fun q => !(q.1 == (k4 : Nat)) && !(q.1 + 1 == (k4 : Nat) && isL q.2)) = ls1) (k : AW γ M d kc ks (pc + 1) ls1 st h Q) : AW γ M d kc ks pc ls ((vi x) :: st) h Q := by
  intro p l e R s m args below meth c D E Zn mc ms H locs cells slots lsM F V
  exact lv_istore_n F.1 F.2.1 hd rfl V.2.2.2.2.1 hn (lc_set1 (k4 : Nat) (vi x)) (fun ls9 hl9 => by subst he; exact k p l e R s m args below meth c D E Zn mc ms H locs cells slots ls9 F ⟨V.1, V.2.1, V.2.2.1, V.2.2.2.1, hl9, V.2.2.2.2.2⟩)
theorem aw_lstore {i : Nat} {x : Int64} {ls1 : List (Nat × AV)} (hd : decode M.2.1 pc = .ok (.lstore i, 2)) (hn : i + 1 < M.2.2.1) (he : (i, (vl x)) :: ls.filter (fun q => !(q.1 == i) && (!(q.1 == i + 1) && !(q.1 + 1 == i && isL q.2))) = ls1) (k : AW γ M d kc ks (pc + 2) ls1 st h Q) : AW γ M d kc ks pc ls ((vl x) :: st) h Q := by
  intro p l e R s m args below meth c D E Zn mc ms H locs cells slots lsM F V
  exact lv_lstore F.1 F.2.1 hd V.2.2.2.2.1 hn (lc_set2 i (vl x)) (fun ls9 hl9 => by subst he; exact k p l e R s m args below meth c D E Zn mc ms H locs cells slots ls9 F ⟨V.1, V.2.1, V.2.2.1, V.2.2.2.1, hl9, V.2.2.2.2.2⟩)
theorem aw_lstore_n {k4 : Fin 4} {x : Int64} {ls1 : List (Nat × AV)} (hd : decode M.2.1 pc = .ok (.lstore_n k4, 1)) (hn : (k4 : Nat) + 1 < M.2.2.1) (he : ((k4 : Nat), (vl x)) :: ls.filter (fun q => !(q.1 == (k4 : Nat)) && (!(q.1 == (k4 : Nat) + 1) && !(q.1 + 1 == (k4 : Nat) && isL q.2))) = ls1) (k : AW γ M d kc ks (pc + 1) ls1 st h Q) : AW γ M d kc ks pc ls ((vl x) :: st) h Q := by
  intro p l e R s m args below meth c D E Zn mc ms H locs cells slots lsM F V
  exact lv_lstore_n F.1 F.2.1 hd rfl V.2.2.2.2.1 hn (lc_set2 (k4 : Nat) (vl x)) (fun ls9 hl9 => by subst he; exact k p l e R s m args below meth c D E Zn mc ms H locs cells slots ls9 F ⟨V.1, V.2.1, V.2.2.1, V.2.2.2.1, hl9, V.2.2.2.2.2⟩)
theorem aw_astore {i : Nat} {x : Nat} {ls1 : List (Nat × AV)} (hd : decode M.2.1 pc = .ok (.astore i, 2)) (hn : i < M.2.2.1) (he : (i, (vr (some x))) :: ls.filter (fun q => !(q.1 == i) && !(q.1 + 1 == i && isL q.2)) = ls1) (k : AW γ M d kc ks (pc + 2) ls1 st h Q) : AW γ M d kc ks pc ls ((vr (some x)) :: st) h Q := by
  intro p l e R s m args below meth c D E Zn mc ms H locs cells slots lsM F V
  exact lv_astore F.1 F.2.1 hd V.2.2.2.2.1 hn (lc_set1 i (vr (some x))) (fun ls9 hl9 => by subst he; exact k p l e R s m args below meth c D E Zn mc ms H locs cells slots ls9 F ⟨V.1, V.2.1, V.2.2.1, V.2.2.2.1, hl9, V.2.2.2.2.2⟩)
theorem aw_astore_n {k4 : Fin 4} {x : Nat} {ls1 : List (Nat × AV)} (hd : decode M.2.1 pc = .ok (.astore_n k4, 1)) (hn : (k4 : Nat) < M.2.2.1) (he : ((k4 : Nat), (vr (some x))) :: ls.filter (fun q => !(q.1 == (k4 : Nat)) && !(q.1 + 1 == (k4 : Nat) && isL q.2)) = ls1) (k : AW γ M d kc ks (pc + 1) ls1 st h Q) : AW γ M d kc ks pc ls ((vr (some x)) :: st) h Q := by
  intro p l e R s m args below meth c D E Zn mc ms H locs cells slots lsM F V
  exact lv_astore_n F.1 F.2.1 hd rfl V.2.2.2.2.1 hn (lc_set1 (k4 : Nat) (vr (some x))) (fun ls9 hl9 => by subst he; exact k p l e R s m args below meth c D E Zn mc ms H locs cells slots ls9 F ⟨V.1, V.2.1, V.2.2.1, V.2.2.2.1, hl9, V.2.2.2.2.2⟩)
theorem aw_iinc {i k9 : Nat} {n x : Int} {ls1 : List (Nat × AV)} (hd : decode M.2.1 pc = .ok (.iinc i n, 3)) (hk : ls[k9]? = some (i, vi x)) (hn : i < M.2.2.1) (he : (i, vi (x + n)) :: ls.filter (fun q => !(q.1 == i) && !(q.1 + 1 == i && isL q.2)) = ls1) (k : AW γ M d kc ks (pc + 3) ls1 st h Q) : AW γ M d kc ks pc ls st h Q := by
  intro p l e R s m args below meth c D E Zn mc ms H locs cells slots lsM F V
  refine lv_iinc F.1 F.2.1 hd V.2.2.2.2.1 (k := k9) (x := Int32.ofInt x) (v := Int32.ofInt (x + n)) (by rw [List.getElem?_map, hk]; rfl) (Int32.ofInt_add x n).symm hn (lc_set1 i (vi (x + n))) (fun ls9 hl9 => by subst he; exact k p l e R s m args below meth c D E Zn mc ms H locs cells slots ls9 F ⟨V.1, V.2.1, V.2.2.1, V.2.2.2.1, hl9, V.2.2.2.2.2⟩)
theorem lc_sub {ls1 : List (Nat × AV)} {lsM : Array Slot} {nL : Nat} (hl : lv_has lsM nL (ls.map lc)) (hs : ∀ q ∈ ls1, q ∈ ls) : lv_has lsM nL (ls1.map lc) := by
  refine ⟨hl.1, hl.2.1, fun q hq => ?_⟩
  obtain ⟨x, h1, h2⟩ := List.mem_map.mp hq
  exact hl.2.2 q (List.mem_map.mpr ⟨x, hs x h1, h2⟩)
/-- fewer locals, in any order, by their places -/
theorem aw_sub {ls1 : List (Nat × AV)} (ks9 : List Nat) (hs : ks9.filterMap (fun i => ls[i]?) = ls1) (k : AW γ M d kc ks pc ls1 st h Q) : AW γ M d kc ks pc ls st h Q := by
  intro p l e R s m args below meth c D E Zn mc ms H locs cells slots lsM F V
  refine k p l e R s m args below meth c D E Zn mc ms H locs cells slots lsM F ⟨V.1, V.2.1, V.2.2.1, V.2.2.2.1, lc_sub V.2.2.2.2.1 fun q hq => ?_, V.2.2.2.2.2⟩
  rw [← hs] at hq
  obtain ⟨i, -, hi⟩ := List.mem_filterMap.mp hq
  exact List.mem_of_getElem? hi
theorem aw_mono {Q' : AR → AH → Prop} (hQ : ∀ r h', Q' r h' → Q r h') (k : AW γ M d kc ks pc ls st h Q') : AW γ M d kc ks pc ls st h Q := by
  intro p l e R s m args below meth c D E Zn mc ms H locs cells slots lsM F V
  intro T hT X
  obtain ⟨t, a1, o, b1, b2, b3⟩ := k p l e R s m args below meth c D E Zn mc ms H locs cells slots lsM F V T hT X
  refine ⟨t, a1, o, b1, b2, ?_⟩
  rcases b3 with ⟨⟨v, h', c1, c2, c3⟩, b4⟩ | ⟨q, c0, E9, ce, L, ⟨h', c2, c3⟩, c4⟩
  · exact Or.inl ⟨⟨v, h', c1, hQ _ _ c2, c3⟩, b4⟩
  · exact Or.inr ⟨q, c0, E9, ce, L, ⟨h', hQ _ _ c2, c3⟩, c4⟩
theorem aw_eq {st' : List AV} (e : st = st') (k : AW γ M d kc ks pc ls st' h Q) : AW γ M d kc ks pc ls st h Q := e ▸ k
theorem aw_eqh {h' : AH} (e : h = h') (k : AW γ M d kc ks pc ls st h' Q) : AW γ M d kc ks pc ls st h Q := e ▸ k
theorem lc_c1 {v : AV} (hv : isL v = false) : (cV v).category = 1 := by
  rcases v with z | x | o
  · rfl
  · cases hv
  · cases o <;> rfl
theorem aw_pop {v : AV} (hd : decode M.2.1 pc = .ok (.pop, 1)) (hv : isL v = false) (k : AW γ M d kc ks (pc + 1) ls st h Q) : AW γ M d kc ks pc ls (v :: st) h Q := by
  intro p l e R s m args below meth c D E Zn mc ms H locs cells slots lsM F V
  exact lv_pop F.1 F.2.1 hd (lc_c1 hv) (k p l e R s m args below meth c D E Zn mc ms H locs cells slots lsM F V)
theorem aw_dup {v : AV} (hd : decode M.2.1 pc = .ok (.dup, 1)) (hv : isL v = false) (k : AW γ M d kc ks (pc + 1) ls (v :: v :: st) h Q) : AW γ M d kc ks pc ls (v :: st) h Q := by
  intro p l e R s m args below meth c D E Zn mc ms H locs cells slots lsM F V
  exact lv_dup F.1 F.2.1 hd (lc_c1 hv) (k p l e R s m args below meth c D E Zn mc ms H locs cells slots lsM F V)
theorem aw_dup2 {v u : AV} (hd : decode M.2.1 pc = .ok (.dup2, 1)) (hv : isL v = false) (hu : isL u = false) (k : AW γ M d kc ks (pc + 1) ls (v :: u :: v :: u :: st) h Q) : AW γ M d kc ks pc ls (v :: u :: st) h Q := by
  intro p l e R s m args below meth c D E Zn mc ms H locs cells slots lsM F V
  exact lv_dup2_11 F.1 F.2.1 hd (lc_c1 hv) (lc_c1 hu) (k p l e R s m args below meth c D E Zn mc ms H locs cells slots lsM F V)
theorem aw_dup2_2 {x : Int64} (hd : decode M.2.1 pc = .ok (.dup2, 1)) (k : AW γ M d kc ks (pc + 1) ls (vl x :: vl x :: st) h Q) : AW γ M d kc ks pc ls (vl x :: st) h Q := by
  intro p l e R s m args below meth c D E Zn mc ms H locs cells slots lsM F V
  exact lv_dup2_2 F.1 F.2.1 hd rfl (k p l e R s m args below meth c D E Zn mc ms H locs cells slots lsM F V)
theorem aw_iadd {a b : Int} (hd : decode M.2.1 pc = .ok (.iadd, 1)) (k : AW γ M d kc ks (pc + 1) ls (vi (a + b) :: st) h Q) : AW γ M d kc ks pc ls (vi b :: vi a :: st) h Q := by
  intro p l e R s m args below meth c D E Zn mc ms H locs cells slots lsM F V
  refine lv_iadd F.1 F.2.1 hd ?_
  rw [← Int32.ofInt_add]
  exact k p l e R s m args below meth c D E Zn mc ms H locs cells slots lsM F V
theorem aw_isub {a b : Int} (hd : decode M.2.1 pc = .ok (.isub, 1)) (k : AW γ M d kc ks (pc + 1) ls (vi (a - b) :: st) h Q) : AW γ M d kc ks pc ls (vi b :: vi a :: st) h Q := by
  intro p l e R s m args below meth c D E Zn mc ms H locs cells slots lsM F V
  refine lv_isub F.1 F.2.1 hd ?_
  rw [← Int32.ofInt_sub]
  exact k p l e R s m args below meth c D E Zn mc ms H locs cells slots lsM F V
theorem aw_imul {a b : Int} (hd : decode M.2.1 pc = .ok (.imul, 1)) (k : AW γ M d kc ks (pc + 1) ls (vi (a * b) :: st) h Q) : AW γ M d kc ks pc ls (vi b :: vi a :: st) h Q := by
  intro p l e R s m args below meth c D E Zn mc ms H locs cells slots lsM F V
  refine lv_imul F.1 F.2.1 hd ?_
  rw [← Int32.ofInt_mul]
  exact k p l e R s m args below meth c D E Zn mc ms H locs cells slots lsM F V
theorem aw_ladd {a b : Int64} (hd : decode M.2.1 pc = .ok (.ladd, 1)) (k : AW γ M d kc ks (pc + 1) ls (vl (a + b) :: st) h Q) : AW γ M d kc ks pc ls (vl b :: vl a :: st) h Q := by
  intro p l e R s m args below meth c D E Zn mc ms H locs cells slots lsM F V
  exact lv_ladd F.1 F.2.1 hd (k p l e R s m args below meth c D E Zn mc ms H locs cells slots lsM F V)
theorem aw_lsub {a b : Int64} (hd : decode M.2.1 pc = .ok (.lsub, 1)) (k : AW γ M d kc ks (pc + 1) ls (vl (a - b) :: st) h Q) : AW γ M d kc ks pc ls (vl b :: vl a :: st) h Q := by
  intro p l e R s m args below meth c D E Zn mc ms H locs cells slots lsM F V
  exact lv_lsub F.1 F.2.1 hd (k p l e R s m args below meth c D E Zn mc ms H locs cells slots lsM F V)
theorem aw_lmul {a b : Int64} (hd : decode M.2.1 pc = .ok (.lmul, 1)) (k : AW γ M d kc ks (pc + 1) ls (vl (a * b) :: st) h Q) : AW γ M d kc ks pc ls (vl b :: vl a :: st) h Q := by
  intro p l e R s m args below meth c D E Zn mc ms H locs cells slots lsM F V
  exact lv_lmul F.1 F.2.1 hd (k p l e R s m args below meth c D E Zn mc ms H locs cells slots lsM F V)
theorem aw_land {a b : Int64} (hd : decode M.2.1 pc = .ok (.land, 1)) (k : AW γ M d kc ks (pc + 1) ls (vl (a &&& b) :: st) h Q) : AW γ M d kc ks pc ls (vl b :: vl a :: st) h Q := by
  intro p l e R s m args below meth c D E Zn mc ms H locs cells slots lsM F V
  exact lv_land F.1 F.2.1 hd (k p l e R s m args below meth c D E Zn mc ms H locs cells slots lsM F V)
theorem aw_lor {a b : Int64} (hd : decode M.2.1 pc = .ok (.lor, 1)) (k : AW γ M d kc ks (pc + 1) ls (vl (a ||| b) :: st) h Q) : AW γ M d kc ks pc ls (vl b :: vl a :: st) h Q := by
  intro p l e R s m args below meth c D E Zn mc ms H locs cells slots lsM F V
  exact lv_lor F.1 F.2.1 hd (k p l e R s m args below meth c D E Zn mc ms H locs cells slots lsM F V)
theorem aw_lxor {a b : Int64} (hd : decode M.2.1 pc = .ok (.lxor, 1)) (k : AW γ M d kc ks (pc + 1) ls (vl (a ^^^ b) :: st) h Q) : AW γ M d kc ks pc ls (vl b :: vl a :: st) h Q := by
  intro p l e R s m args below meth c D E Zn mc ms H locs cells slots lsM F V
  exact lv_lxor F.1 F.2.1 hd (k p l e R s m args below meth c D E Zn mc ms H locs cells slots lsM F V)
theorem aw_lneg {a : Int64} (hd : decode M.2.1 pc = .ok (.lneg, 1)) (k : AW γ M d kc ks (pc + 1) ls (vl (-a) :: st) h Q) : AW γ M d kc ks pc ls (vl a :: st) h Q := by
  intro p l e R s m args below meth c D E Zn mc ms H locs cells slots lsM F V
  exact lv_lneg F.1 F.2.1 hd (k p l e R s m args below meth c D E Zn mc ms H locs cells slots lsM F V)
theorem aw_lshl {a v : Int64} {b : Int} (hd : decode M.2.1 pc = .ok (.lshl, 1)) (hv : a <<< ((Int32.ofInt b).toInt64 &&& 63) = v) (k : AW γ M d kc ks (pc + 1) ls (vl v :: st) h Q) : AW γ M d kc ks pc ls (vi b :: vl a :: st) h Q := by
  intro p l e R s m args below meth c D E Zn mc ms H locs cells slots lsM F V
  exact lv_lshl F.1 F.2.1 hd hv (k p l e R s m args below meth c D E Zn mc ms H locs cells slots lsM F V)
theorem aw_lshr {a v : Int64} {b : Int} (hd : decode M.2.1 pc = .ok (.lshr, 1)) (hv : a >>> ((Int32.ofInt b).toInt64 &&& 63) = v) (k : AW γ M d kc ks (pc + 1) ls (vl v :: st) h Q) : AW γ M d kc ks pc ls (vi b :: vl a :: st) h Q := by
  intro p l e R s m args below meth c D E Zn mc ms H locs cells slots lsM F V
  exact lv_lshr F.1 F.2.1 hd hv (k p l e R s m args below meth c D E Zn mc ms H locs cells slots lsM F V)
theorem aw_lushr {a v : Int64} {b : Int} (hd : decode M.2.1 pc = .ok (.lushr, 1)) (hv : (a.toUInt64 >>> ((Int32.ofInt b).toInt64.toUInt64 &&& Int64.toUInt64 63)).toInt64 = v) (k : AW γ M d kc ks (pc + 1) ls (vl v :: st) h Q) : AW γ M d kc ks pc ls (vi b :: vl a :: st) h Q := by
  intro p l e R s m args below meth c D E Zn mc ms H locs cells slots lsM F V
  exact lv_lushr F.1 F.2.1 hd hv (k p l e R s m args below meth c D E Zn mc ms H locs cells slots lsM F V)
theorem aw_i2l {a : Int} {v : Int64} (hd : decode M.2.1 pc = .ok (.i2l, 1)) (hv : (Int32.ofInt a).toInt64 = v) (k : AW γ M d kc ks (pc + 1) ls (vl v :: st) h Q) : AW γ M d kc ks pc ls (vi a :: st) h Q := by
  intro p l e R s m args below meth c D E Zn mc ms H locs cells slots lsM F V
  exact lv_i2l F.1 F.2.1 hd hv (k p l e R s m args below meth c D E Zn mc ms H locs cells slots lsM F V)
theorem aw_l2i {a : Int64} {v : Int} (hd : decode M.2.1 pc = .ok (.l2i, 1)) (hv : a.toInt32 = Int32.ofInt v) (k : AW γ M d kc ks (pc + 1) ls (vi v :: st) h Q) : AW γ M d kc ks pc ls (vl a :: st) h Q := by
  intro p l e R s m args below meth c D E Zn mc ms H locs cells slots lsM F V
  exact lv_l2i F.1 F.2.1 hd hv (k p l e R s m args below meth c D E Zn mc ms H locs cells slots lsM F V)
theorem aw_i2b {a v : Int} (hd : decode M.2.1 pc = .ok (.i2b, 1)) (hv : (Int32.ofInt a).toInt8.toInt32 = Int32.ofInt v) (k : AW γ M d kc ks (pc + 1) ls (vi v :: st) h Q) : AW γ M d kc ks pc ls (vi a :: st) h Q := by
  intro p l e R s m args below meth c D E Zn mc ms H locs cells slots lsM F V
  exact lv_i2b F.1 F.2.1 hd hv (k p l e R s m args below meth c D E Zn mc ms H locs cells slots lsM F V)
theorem aw_i2c {a v : Int} (hd : decode M.2.1 pc = .ok (.i2c, 1)) (hv : ((Int32.ofInt a).toUInt32 % 65536).toInt32 = Int32.ofInt v) (k : AW γ M d kc ks (pc + 1) ls (vi v :: st) h Q) : AW γ M d kc ks pc ls (vi a :: st) h Q := by
  intro p l e R s m args below meth c D E Zn mc ms H locs cells slots lsM F V
  exact lv_i2c F.1 F.2.1 hd hv (k p l e R s m args below meth c D E Zn mc ms H locs cells slots lsM F V)
theorem aw_iand {a b v : Int} (hd : decode M.2.1 pc = .ok (.iand, 1)) (hv : Int32.ofInt a &&& Int32.ofInt b = Int32.ofInt v) (k : AW γ M d kc ks (pc + 1) ls (vi v :: st) h Q) : AW γ M d kc ks pc ls (vi b :: vi a :: st) h Q := by
  intro p l e R s m args below meth c D E Zn mc ms H locs cells slots lsM F V
  refine lv_iand F.1 F.2.1 hd ?_
  rw [hv]
  exact k p l e R s m args below meth c D E Zn mc ms H locs cells slots lsM F V
theorem aw_ior {a b v : Int} (hd : decode M.2.1 pc = .ok (.ior, 1)) (hv : Int32.ofInt a ||| Int32.ofInt b = Int32.ofInt v) (k : AW γ M d kc ks (pc + 1) ls (vi v :: st) h Q) : AW γ M d kc ks pc ls (vi b :: vi a :: st) h Q := by
  intro p l e R s m args below meth c D E Zn mc ms H locs cells slots lsM F V
  refine lv_ior F.1 F.2.1 hd ?_
  rw [hv]
  exact k p l e R s m args below meth c D E Zn mc ms H locs cells slots lsM F V
theorem aw_ishl {a b v : Int} (hd : decode M.2.1 pc = .ok (.ishl, 1)) (hv : Int32.ofInt a <<< (Int32.ofInt b &&& 31) = Int32.ofInt v) (k : AW γ M d kc ks (pc + 1) ls (vi v :: st) h Q) : AW γ M d kc ks pc ls (vi b :: vi a :: st) h Q := by
  intro p l e R s m args below meth c D E Zn mc ms H locs cells slots lsM F V
  refine lv_ishl F.1 F.2.1 hd ?_
  rw [hv]
  exact k p l e R s m args below meth c D E Zn mc ms H locs cells slots lsM F V
theorem aw_ishr {a b v : Int} (hd : decode M.2.1 pc = .ok (.ishr, 1)) (hv : Int32.ofInt a >>> (Int32.ofInt b &&& 31) = Int32.ofInt v) (k : AW γ M d kc ks (pc + 1) ls (vi v :: st) h Q) : AW γ M d kc ks pc ls (vi b :: vi a :: st) h Q := by
  intro p l e R s m args below meth c D E Zn mc ms H locs cells slots lsM F V
  refine lv_ishr F.1 F.2.1 hd ?_
  rw [hv]
  exact k p l e R s m args below meth c D E Zn mc ms H locs cells slots lsM F V
theorem aw_idiv {a b : Int} (hd : decode M.2.1 pc = .ok (.idiv, 1)) (ha : 0 ≤ a ∧ a ≤ 2147483647) (hb0 : 1 ≤ b ∧ b ≤ 2147483647) (k : AW γ M d kc ks (pc + 1) ls (vi (a / b) :: st) h Q) : AW γ M d kc ks pc ls (vi b :: vi a :: st) h Q := by
  intro p l e R s m args below meth c D E Zn mc ms H locs cells slots lsM F V
  have hne : ¬ Int32.ofInt b = 0 := by rw [i32_z, i32_eq ⟨by omega, by omega⟩ ⟨by omega, by omega⟩]; omega
  refine lv_idiv F.1 F.2.1 hd hne ?_
  have hle : a / b ≤ a := Int.ediv_le_self b ha.1
  have h0 : 0 ≤ a / b := Int.ediv_nonneg ha.1 (by omega)
  have e8 : Int32.ofInt a / Int32.ofInt b = Int32.ofInt (a / b) := by
    apply Int32.toInt_inj.mp
    rw [Int32.toInt_div_of_ne_right _ _ (by intro q; have q2 : b = (-1 : Int32).toInt := (i32_in (a := b) ⟨by omega, by omega⟩).symm.trans (congrArg Int32.toInt q); have e9 : (-1 : Int32).toInt = -1 := rfl; omega), i32_in ⟨by omega, by omega⟩, i32_in ⟨by omega, by omega⟩, i32_in ⟨by omega, by omega⟩]
    exact Int.tdiv_eq_ediv_of_nonneg ha.1
  rw [e8]
  exact k p l e R s m args below meth c D E Zn mc ms H locs cells slots lsM F V
theorem aw_irem {a b : Int} (hd : decode M.2.1 pc = .ok (.irem, 1)) (ha : 0 ≤ a ∧ a ≤ 2147483647) (hb0 : 1 ≤ b ∧ b ≤ 2147483647) (k : AW γ M d kc ks (pc + 1) ls (vi (a % b) :: st) h Q) : AW γ M d kc ks pc ls (vi b :: vi a :: st) h Q := by
  intro p l e R s m args below meth c D E Zn mc ms H locs cells slots lsM F V
  have hne : ¬ Int32.ofInt b = 0 := by rw [i32_z, i32_eq ⟨by omega, by omega⟩ ⟨by omega, by omega⟩]; omega
  refine lv_irem F.1 F.2.1 hd hne ?_
  have hle : a / b ≤ a := Int.ediv_le_self b ha.1
  have h0 : 0 ≤ a / b := Int.ediv_nonneg ha.1 (by omega)
  have e8 : Int32.ofInt a / Int32.ofInt b = Int32.ofInt (a / b) := by
    apply Int32.toInt_inj.mp
    rw [Int32.toInt_div_of_ne_right _ _ (by intro q; have q2 : b = (-1 : Int32).toInt := (i32_in (a := b) ⟨by omega, by omega⟩).symm.trans (congrArg Int32.toInt q); have e9 : (-1 : Int32).toInt = -1 := rfl; omega), i32_in ⟨by omega, by omega⟩, i32_in ⟨by omega, by omega⟩, i32_in ⟨by omega, by omega⟩]
    exact Int.tdiv_eq_ediv_of_nonneg ha.1
  rw [e8, ← Int32.ofInt_mul, ← Int32.ofInt_sub, show a - a / b * b = a % b by rw [Int.emod_def, Int.mul_comm]]
  exact k p l e R s m args below meth c D E Zn mc ms H locs cells slots lsM F V
theorem aw_if_eq {a : Int} {off : Int} {tgt : Nat} (hd : decode M.2.1 pc = .ok (.ifCond .eq off, 3)) (ht : (pc : Int) + off = (tgt : Int)) (ha : -2147483648 ≤ a ∧ a ≤ 2147483647) (kt : a = 0 → AW γ M d kc ks tgt ls st h Q) (kf : ¬ (a = 0) → AW γ M d kc ks (pc + 3) ls st h Q) : AW γ M d kc ks pc ls (vi a :: st) h Q := by
  intro p l e R s m args below meth c D E Zn mc ms H locs cells slots lsM F V
  have hz : -2147483648 ≤ (0 : Int) ∧ (0 : Int) ≤ 2147483647 := by omega
  refine lv_if_eq F.1 F.2.1 hd ht (fun q => kt ?_ p l e R s m args below meth c D E Zn mc ms H locs cells slots lsM F V) (fun q => kf ?_ p l e R s m args below meth c D E Zn mc ms H locs cells slots lsM F V)
  all_goals (simp only [i32_z, i32_eq ha hz, i32_eq hz ha] at q; first | exact q | (intro z; exact q z) | omega)
theorem aw_if_ne {a : Int} {off : Int} {tgt : Nat} (hd : decode M.2.1 pc = .ok (.ifCond .ne off, 3)) (ht : (pc : Int) + off = (tgt : Int)) (ha : -2147483648 ≤ a ∧ a ≤ 2147483647) (kt : ¬ a = 0 → AW γ M d kc ks tgt ls st h Q) (kf : ¬ (¬ a = 0) → AW γ M d kc ks (pc + 3) ls st h Q) : AW γ M d kc ks pc ls (vi a :: st) h Q := by
  intro p l e R s m args below meth c D E Zn mc ms H locs cells slots lsM F V
  have hz : -2147483648 ≤ (0 : Int) ∧ (0 : Int) ≤ 2147483647 := by omega
  refine lv_if_ne F.1 F.2.1 hd ht (fun q => kt ?_ p l e R s m args below meth c D E Zn mc ms H locs cells slots lsM F V) (fun q => kf ?_ p l e R s m args below meth c D E Zn mc ms H locs cells slots lsM F V)
  all_goals (simp only [i32_z, i32_eq ha hz, i32_eq hz ha] at q; first | exact q | (intro z; exact q z) | omega)
theorem aw_if_lt {a : Int} {off : Int} {tgt : Nat} (hd : decode M.2.1 pc = .ok (.ifCond .lt off, 3)) (ht : (pc : Int) + off = (tgt : Int)) (ha : -2147483648 ≤ a ∧ a ≤ 2147483647) (kt : a < 0 → AW γ M d kc ks tgt ls st h Q) (kf : ¬ (a < 0) → AW γ M d kc ks (pc + 3) ls st h Q) : AW γ M d kc ks pc ls (vi a :: st) h Q := by
  intro p l e R s m args below meth c D E Zn mc ms H locs cells slots lsM F V
  have hz : -2147483648 ≤ (0 : Int) ∧ (0 : Int) ≤ 2147483647 := by omega
  refine lv_if_lt F.1 F.2.1 hd ht (fun q => kt ?_ p l e R s m args below meth c D E Zn mc ms H locs cells slots lsM F V) (fun q => kf ?_ p l e R s m args below meth c D E Zn mc ms H locs cells slots lsM F V)
  all_goals (simp only [i32_z, i32_lt ha hz, i32_lt hz ha] at q; first | exact q | (intro z; exact q z) | omega)
theorem aw_if_ge {a : Int} {off : Int} {tgt : Nat} (hd : decode M.2.1 pc = .ok (.ifCond .ge off, 3)) (ht : (pc : Int) + off = (tgt : Int)) (ha : -2147483648 ≤ a ∧ a ≤ 2147483647) (kt : 0 ≤ a → AW γ M d kc ks tgt ls st h Q) (kf : ¬ (0 ≤ a) → AW γ M d kc ks (pc + 3) ls st h Q) : AW γ M d kc ks pc ls (vi a :: st) h Q := by
  intro p l e R s m args below meth c D E Zn mc ms H locs cells slots lsM F V
  have hz : -2147483648 ≤ (0 : Int) ∧ (0 : Int) ≤ 2147483647 := by omega
  refine lv_if_ge F.1 F.2.1 hd ht (fun q => kt ?_ p l e R s m args below meth c D E Zn mc ms H locs cells slots lsM F V) (fun q => kf ?_ p l e R s m args below meth c D E Zn mc ms H locs cells slots lsM F V)
  all_goals (simp only [i32_z, i32_le ha hz, i32_le hz ha] at q; first | exact q | (intro z; exact q z) | omega)
theorem aw_if_gt {a : Int} {off : Int} {tgt : Nat} (hd : decode M.2.1 pc = .ok (.ifCond .gt off, 3)) (ht : (pc : Int) + off = (tgt : Int)) (ha : -2147483648 ≤ a ∧ a ≤ 2147483647) (kt : 0 < a → AW γ M d kc ks tgt ls st h Q) (kf : ¬ (0 < a) → AW γ M d kc ks (pc + 3) ls st h Q) : AW γ M d kc ks pc ls (vi a :: st) h Q := by
  intro p l e R s m args below meth c D E Zn mc ms H locs cells slots lsM F V
  have hz : -2147483648 ≤ (0 : Int) ∧ (0 : Int) ≤ 2147483647 := by omega
  refine lv_if_gt F.1 F.2.1 hd ht (fun q => kt ?_ p l e R s m args below meth c D E Zn mc ms H locs cells slots lsM F V) (fun q => kf ?_ p l e R s m args below meth c D E Zn mc ms H locs cells slots lsM F V)
  all_goals (simp only [i32_z, i32_lt ha hz, i32_lt hz ha] at q; first | exact q | (intro z; exact q z) | omega)
theorem aw_if_le {a : Int} {off : Int} {tgt : Nat} (hd : decode M.2.1 pc = .ok (.ifCond .le off, 3)) (ht : (pc : Int) + off = (tgt : Int)) (ha : -2147483648 ≤ a ∧ a ≤ 2147483647) (kt : a ≤ 0 → AW γ M d kc ks tgt ls st h Q) (kf : ¬ (a ≤ 0) → AW γ M d kc ks (pc + 3) ls st h Q) : AW γ M d kc ks pc ls (vi a :: st) h Q := by
  intro p l e R s m args below meth c D E Zn mc ms H locs cells slots lsM F V
  have hz : -2147483648 ≤ (0 : Int) ∧ (0 : Int) ≤ 2147483647 := by omega
  refine lv_if_le F.1 F.2.1 hd ht (fun q => kt ?_ p l e R s m args below meth c D E Zn mc ms H locs cells slots lsM F V) (fun q => kf ?_ p l e R s m args below meth c D E Zn mc ms H locs cells slots lsM F V)
  all_goals (simp only [i32_z, i32_le ha hz, i32_le hz ha] at q; first | exact q | (intro z; exact q z) | omega)
theorem aw_ic_eq {a b : Int} {off : Int} {tgt : Nat} (hd : decode M.2.1 pc = .ok (.if_icmp .eq off, 3)) (ht : (pc : Int) + off = (tgt : Int)) (ha : -2147483648 ≤ a ∧ a ≤ 2147483647) (hb0 : -2147483648 ≤ b ∧ b ≤ 2147483647) (kt : a = b → AW γ M d kc ks tgt ls st h Q) (kf : ¬ (a = b) → AW γ M d kc ks (pc + 3) ls st h Q) : AW γ M d kc ks pc ls (vi b :: vi a :: st) h Q := by
  intro p l e R s m args below meth c D E Zn mc ms H locs cells slots lsM F V
  refine lv_icmp_eq F.1 F.2.1 hd ht (fun q => kt ?_ p l e R s m args below meth c D E Zn mc ms H locs cells slots lsM F V) (fun q => kf ?_ p l e R s m args below meth c D E Zn mc ms H locs cells slots lsM F V)
  all_goals (simp only [i32_eq ha hb0, i32_eq hb0 ha] at q; first | exact q | (intro z; exact q z) | omega)
theorem aw_ic_ne {a b : Int} {off : Int} {tgt : Nat} (hd : decode M.2.1 pc = .ok (.if_icmp .ne off, 3)) (ht : (pc : Int) + off = (tgt : Int)) (ha : -2147483648 ≤ a ∧ a ≤ 2147483647) (hb0 : -2147483648 ≤ b ∧ b ≤ 2147483647) (kt : ¬ a = b → AW γ M d kc ks tgt ls st h Q) (kf : ¬ (¬ a = b) → AW γ M d kc ks (pc + 3) ls st h Q) : AW γ M d kc ks pc ls (vi b :: vi a :: st) h Q := by
  intro p l e R s m args below meth c D E Zn mc ms H locs cells slots lsM F V
  refine lv_icmp_ne F.1 F.2.1 hd ht (fun q => kt ?_ p l e R s m args below meth c D E Zn mc ms H locs cells slots lsM F V) (fun q => kf ?_ p l e R s m args below meth c D E Zn mc ms H locs cells slots lsM F V)
  all_goals (simp only [i32_eq ha hb0, i32_eq hb0 ha] at q; first | exact q | (intro z; exact q z) | omega)
theorem aw_ic_lt {a b : Int} {off : Int} {tgt : Nat} (hd : decode M.2.1 pc = .ok (.if_icmp .lt off, 3)) (ht : (pc : Int) + off = (tgt : Int)) (ha : -2147483648 ≤ a ∧ a ≤ 2147483647) (hb0 : -2147483648 ≤ b ∧ b ≤ 2147483647) (kt : a < b → AW γ M d kc ks tgt ls st h Q) (kf : ¬ (a < b) → AW γ M d kc ks (pc + 3) ls st h Q) : AW γ M d kc ks pc ls (vi b :: vi a :: st) h Q := by
  intro p l e R s m args below meth c D E Zn mc ms H locs cells slots lsM F V
  refine lv_icmp_lt F.1 F.2.1 hd ht (fun q => kt ?_ p l e R s m args below meth c D E Zn mc ms H locs cells slots lsM F V) (fun q => kf ?_ p l e R s m args below meth c D E Zn mc ms H locs cells slots lsM F V)
  all_goals (simp only [i32_lt ha hb0, i32_lt hb0 ha] at q; first | exact q | (intro z; exact q z) | omega)
theorem aw_ic_ge {a b : Int} {off : Int} {tgt : Nat} (hd : decode M.2.1 pc = .ok (.if_icmp .ge off, 3)) (ht : (pc : Int) + off = (tgt : Int)) (ha : -2147483648 ≤ a ∧ a ≤ 2147483647) (hb0 : -2147483648 ≤ b ∧ b ≤ 2147483647) (kt : b ≤ a → AW γ M d kc ks tgt ls st h Q) (kf : ¬ (b ≤ a) → AW γ M d kc ks (pc + 3) ls st h Q) : AW γ M d kc ks pc ls (vi b :: vi a :: st) h Q := by
  intro p l e R s m args below meth c D E Zn mc ms H locs cells slots lsM F V
  refine lv_icmp_ge F.1 F.2.1 hd ht (fun q => kt ?_ p l e R s m args below meth c D E Zn mc ms H locs cells slots lsM F V) (fun q => kf ?_ p l e R s m args below meth c D E Zn mc ms H locs cells slots lsM F V)
  all_goals (simp only [i32_le ha hb0, i32_le hb0 ha] at q; first | exact q | (intro z; exact q z) | omega)
theorem aw_ic_gt {a b : Int} {off : Int} {tgt : Nat} (hd : decode M.2.1 pc = .ok (.if_icmp .gt off, 3)) (ht : (pc : Int) + off = (tgt : Int)) (ha : -2147483648 ≤ a ∧ a ≤ 2147483647) (hb0 : -2147483648 ≤ b ∧ b ≤ 2147483647) (kt : b < a → AW γ M d kc ks tgt ls st h Q) (kf : ¬ (b < a) → AW γ M d kc ks (pc + 3) ls st h Q) : AW γ M d kc ks pc ls (vi b :: vi a :: st) h Q := by
  intro p l e R s m args below meth c D E Zn mc ms H locs cells slots lsM F V
  refine lv_icmp_gt F.1 F.2.1 hd ht (fun q => kt ?_ p l e R s m args below meth c D E Zn mc ms H locs cells slots lsM F V) (fun q => kf ?_ p l e R s m args below meth c D E Zn mc ms H locs cells slots lsM F V)
  all_goals (simp only [i32_lt ha hb0, i32_lt hb0 ha] at q; first | exact q | (intro z; exact q z) | omega)
theorem aw_ic_le {a b : Int} {off : Int} {tgt : Nat} (hd : decode M.2.1 pc = .ok (.if_icmp .le off, 3)) (ht : (pc : Int) + off = (tgt : Int)) (ha : -2147483648 ≤ a ∧ a ≤ 2147483647) (hb0 : -2147483648 ≤ b ∧ b ≤ 2147483647) (kt : a ≤ b → AW γ M d kc ks tgt ls st h Q) (kf : ¬ (a ≤ b) → AW γ M d kc ks (pc + 3) ls st h Q) : AW γ M d kc ks pc ls (vi b :: vi a :: st) h Q := by
  intro p l e R s m args below meth c D E Zn mc ms H locs cells slots lsM F V
  refine lv_icmp_le F.1 F.2.1 hd ht (fun q => kt ?_ p l e R s m args below meth c D E Zn mc ms H locs cells slots lsM F V) (fun q => kf ?_ p l e R s m args below meth c D E Zn mc ms H locs cells slots lsM F V)
  all_goals (simp only [i32_le ha hb0, i32_le hb0 ha] at q; first | exact q | (intro z; exact q z) | omega)
theorem aw_goto {off : Int} {tgt : Nat} (hd : decode M.2.1 pc = .ok (.goto off, 3)) (ht : (pc : Int) + off = (tgt : Int)) (k : AW γ M d kc ks tgt ls st h Q) : AW γ M d kc ks pc ls st h Q := by
  intro p l e R s m args below meth c D E Zn mc ms H locs cells slots lsM F V
  exact lv_goto F.1 F.2.1 hd ht (k p l e R s m args below meth c D E Zn mc ms H locs cells slots lsM F V)
theorem aw_lookup {dflt : Int} {ps : Array (Int × Int)} {len : Nat} {a off : Int} {tgt : Nat} (hd : decode M.2.1 pc = .ok (.lookupswitch dflt ps, len)) (hp : (ps.toList.zip (ps.toList.drop 1)).all (fun (a, next) => a.1 < next.1) = true) (ha : -2147483648 ≤ a ∧ a ≤ 2147483647) (ho : Op.lookupswitch.offset ps.toList dflt a = off) (ht : (pc : Int) + off = (tgt : Int)) (k : AW γ M d kc ks tgt ls st h Q) : AW γ M d kc ks pc ls (vi a :: st) h Q := by
  intro p l e R s m args below meth c D E Zn mc ms H locs cells slots lsM F V
  exact lv_lookup F.1 F.2.1 hd hp (by rw [i32_in ha]; exact ho) ht (k p l e R s m args below meth c D E Zn mc ms H locs cells slots lsM F V)
theorem aw_tableOut {dflt lo hi : Int} {offs : Array Int} {len : Nat} {a : Int} {tgt : Nat} (hd : decode M.2.1 pc = .ok (.tableswitch dflt lo hi offs, len)) (ha : -2147483648 ≤ a ∧ a ≤ 2147483647) (ho : a < lo ∨ hi < a) (ht : (pc : Int) + dflt = (tgt : Int)) (k : AW γ M d kc ks tgt ls st h Q) : AW γ M d kc ks pc ls (vi a :: st) h Q := by
  intro p l e R s m args below meth c D E Zn mc ms H locs cells slots lsM F V
  exact lv_tableOut F.1 F.2.1 hd (by rw [i32_in ha]; exact ho) ht (k p l e R s m args below meth c D E Zn mc ms H locs cells slots lsM F V)
theorem aw_tableIn {dflt lo hi : Int} {offs : Array Int} {len : Nat} {a off : Int} {tgt : Nat} (hd : decode M.2.1 pc = .ok (.tableswitch dflt lo hi offs, len)) (ha : -2147483648 ≤ a ∧ a ≤ 2147483647) (h1 : ¬ a < lo) (h2 : ¬ hi < a) (ho : offs[(a - lo).toNat]? = some off) (ht : (pc : Int) + off = (tgt : Int)) (k : AW γ M d kc ks tgt ls st h Q) : AW γ M d kc ks pc ls (vi a :: st) h Q := by
  intro p l e R s m args below meth c D E Zn mc ms H locs cells slots lsM F V
  exact lv_tableIn F.1 F.2.1 hd (by rw [i32_in ha]; exact h1) (by rw [i32_in ha]; exact h2) (by rw [i32_in ha]; exact ho) ht (k p l e R s m args below meth c D E Zn mc ms H locs cells slots lsM F V)
end AWR
