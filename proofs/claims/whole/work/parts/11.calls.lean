/-! ===== BEGIN a constructor that throws (launches without stack traces) ===== -/
section VXIA
variable {p : Program} {l : Launch} {e : Env} {R : Room} {s : State} {m : MethodId} {args : Array Value} {below : List Frame} {meth : Method} {c : Code} {T : State} {locs : List Loc} {cells slots : Nat}
theorem vx_callI (X : Stand p l e R s m args below meth c T locs cells slots) (hexec : p.tables.exec = Jvm.exec) {own : String} {index : Nat} {y : MethodName} {bytes : ByteArray} {maxL : Nat}
    (hown : s.vm.findClass own = some m.cls) (hy1 : y.name = "<init>") (hlink : (Cond.methodLink own index y).before args s = true) (hinst : (Cond.instanceMethod y).before args s = true)
    (hcode : (Cond.code y bytes maxL none).before args s = true) (hy : y.cls ≠ "java/lang/invoke/MethodHandle" ∧ y.cls ≠ "java/lang/invoke/VarHandle")
    {W9 : Nat} {Pre : Pt → Array Value → Prop} {Post : Pt → Array Value → Option Value → Pt → Prop} {PostX : Pt → Array Value → Addr → Pt → Prop} (hK : vx_Back l R p e below s args y 3 W9 Pre Post PostX)
    {g : JFrame} (hg : g.method = m) (hsize : g.locals.size = c.maxLocals) {a : Addr} {argsL rest : List Value} (hlen : ∀ sig, parseMethodDescriptor y.desc = some sig → argsL.length = sig.parameters.length)
    (hstack : g.stack = argsL.reverse ++ .ref a :: rest) (hW : 2 * g.monitorRoom + (rest.map fun v => v.category).sum ≤ W9) (hdg : decode c.code g.pc = .ok (.invokespecial index, 3))
    (hpre : ∀ vm₁, s.WarmedH vm₁ → Pre ⟨T.setVm vm₁, locs, cells, slots⟩ (Value.ref a :: argsL).toArray) :
    (∃ (v : Option Value) (vm₁ : Vm) (B : Pt), s.WarmedH vm₁ ∧ Stand p l e R s m args below meth c B.U B.locs B.cells B.slots ∧ Post ⟨T.setVm vm₁, locs, cells, slots⟩ (Value.ref a :: argsL).toArray v B ∧
      ∀ target, Steps p.tables e below (B.U.setTop { g with pc := g.pc + 3, stack := v.toList ++ rest }) target → Steps p.tables e below (T.setTop g) target) ∨
    (∃ (q : Addr) (vm₁ : Vm) (B : Pt), s.WarmedH vm₁ ∧ Stand p l e R s m args below meth c B.U B.locs B.cells B.slots ∧ PostX ⟨T.setVm vm₁, locs, cells, slots⟩ (Value.ref a :: argsL).toArray q B ∧
      Steps p.tables e below (T.setTop g) ((B.U.setTop { g with stack := rest }).pushFrame (.throwing q))) := by
  subst hg
  have hpl : e.platform.magicAccessors = ({} : Platform).magicAccessors := by rw [X.admits.platform]
  obtain ⟨mk, methM, cM, kP, vm₁, hnamed, hmethM, hcodeM, -, hlocalsM, -, hkP, -, hW₁, hstep₁⟩ := Steps.initColdArgs (e := e) X.here hexec X.warmed hpl hown hy1 hy hlink hinst hcode (f := g) rfl hlen hstack hdg
  have X₁ := X.noted hW₁
  rcases hK g.method meth c ⟨T.setVm vm₁, locs, cells, slots⟩ { g with stack := rest } (.invokespecial index) mk (Value.ref a :: argsL).toArray X₁ rfl hsize hdg hW (X₁.named hnamed) (hpre vm₁ X₁.warmed) with ⟨v, B, X', hpost, hsteps⟩ | ⟨q, B, X', hpost, hsteps⟩
  · exact Or.inl ⟨v, vm₁, B, X₁.warmed, X', hpost, fun target h => hstep₁ _ fun acts => by rw [doInvoke_state]; exact hsteps.trans h⟩
  · exact Or.inr ⟨q, vm₁, B, X₁.warmed, X', hpost, hstep₁ _ fun acts => by rw [doInvoke_state]; exact hsteps⟩
end VXIA
section VXIB
variable {p : Program} {l : Launch} {e : Env} {R : Room} {s : State} {m : MethodId} {args : Array Value} {below : List Frame} {meth : Method} {c : Code} {H : Heap} {locs : List Loc} {cells slots : Nat}
variable {y : MethodName} {bytes cc : ByteArray} {maxL nL mc ms n index : Nat} {ret : Option FieldType} {ws : List Cond} {rm : Room} {Pc : Array Value → State → Prop} {Qc : Array Value → State → Outcome → State → Prop} {XC : String → State → State → Prop} {free : Addr → Prop} {Ts : List Cond} {own C : String} {b : Addr} {As rest : List Value} {g : JFrame}
theorem vx_runI (S : CallFix p m c cc nL s args Ts own) (hM : vx_Met l y ws rm Pc Qc XC mc ms free) (cw : CallB R s args own index y bytes maxL none ws rm mc ms n ∧ y.name = "<init>" ∧ (Cond.instanceMethod y).before args s = true) (hp : PreS s H Pc (.ref b :: As))
    (hg : g.method = m) (hn : As.length = n) (hsize : g.locals.size = nL) (hstack : g.stack = As.reverse ++ .ref b :: rest) (hW : 2 * g.monitorRoom + (rest.map fun v => v.category).sum ≤ 8) (hdg : decode cc g.pc = .ok (.invokespecial index, 3)) (hf : cells + mc ≤ R.cells ∧ slots + ms ≤ R.slots) :
    vx_Run p l e R s m args below meth c H locs cells slots mc ms g rest (Qc (Value.ref b :: As).toArray) XC free := by
  have hK : vx_Back l R p e below s args y 3 8 (PreOf R mc ms Pc) (PostOf Qc mc ms free) (vx_Post XC mc ms free) := vx_callBack cw.1 hM hp.1
  obtain ⟨⟨-, -, -, -, -, -, hcode, -, hy, hlen, hl⟩, hy1, hin⟩ := cw
  obtain ⟨hx, hb, hml, ho, -⟩ := S
  have hPc := hp.2
  intro T hT X
  rcases vx_callI X hx (bytes := bytes) (maxL := maxL) ho hy1 hl hin hcode hy hK hg (hsize.trans hml.symm) (a := b) (argsL := As) (rest := rest) (fun sig h => hn.trans (hlen sig h)) hstack hW (by rw [hb]; exact hdg)
    (fun vm₁ hW₁ => ⟨hf.1, hf.2, hPc (T.setVm vm₁) hT hW₁⟩) with ⟨v, vm₁, ⟨U', l2, c2, s2⟩, hW₁, X', ⟨g', mk, t, L, e1, e2, hq, h1, hL, h2, h3⟩, st⟩ | ⟨q, vm₁, ⟨U', l2, c2, s2⟩, hW₁, X', ⟨g', mk, t, L, E, ce, e1, e2, hq, hce, hcv, hcl, h1, hL, h2, h3⟩, st⟩
  · dsimp only [Pt.U, Pt.locs, Pt.cells, Pt.slots] at X' e1 e2 h1 h2 h3 st
    subst h1; subst h2; subst h3
    exact Or.inl ⟨v, (T.setVm vm₁).calling g' mk (Value.ref b :: As).toArray, t, U', L, hT, X', hL, e1, e2, hq, st⟩
  · dsimp only [Pt.U, Pt.locs, Pt.cells, Pt.slots] at X' e1 e2 h1 h2 h3 st hcl
    subst h1; subst h2; subst h3
    exact Or.inr ⟨q, (T.setVm vm₁).calling g' mk (Value.ref b :: As).toArray, t, U', L, E, ce, hT, X', hL, e1, e2, hq, hce, hcv, vx_cls hW₁ hcl, st⟩
end VXIB
/-! ===== END ===== -/
/-! ===== BEGIN a private constructor of a nest mate that throws ===== -/
section VXIC
variable {p : Program} {l : Launch} {e : Env} {R : Room} {s : State} {m : MethodId} {args : Array Value} {below : List Frame} {meth : Method} {c : Code} {T : State} {locs : List Loc} {cells slots : Nat}
theorem vx_callIN (X : Stand p l e R s m args below meth c T locs cells slots) (hexec : p.tables.exec = Jvm.exec) {own : String} {index : Nat} {host : String} {y : MethodName} {bytes : ByteArray} {maxL : Nat}
    (hown : s.vm.findClass own = some m.cls) (hy1 : y.name = "<init>") (hlink : (Cond.methodLinkNest own index y host).before args s = true) (hinst : (Cond.instanceMethod y).before args s = true)
    (hcode : (Cond.code y bytes maxL none).before args s = true) (hy : y.cls ≠ "java/lang/invoke/MethodHandle" ∧ y.cls ≠ "java/lang/invoke/VarHandle")
    {W9 : Nat} {Pre : Pt → Array Value → Prop} {Post : Pt → Array Value → Option Value → Pt → Prop} {PostX : Pt → Array Value → Addr → Pt → Prop} (hK : vx_Back l R p e below s args y 3 W9 Pre Post PostX)
    {g : JFrame} (hg : g.method = m) (hsize : g.locals.size = c.maxLocals) {a : Addr} {argsL rest : List Value} (hlen : ∀ sig, parseMethodDescriptor y.desc = some sig → argsL.length = sig.parameters.length)
    (hstack : g.stack = argsL.reverse ++ .ref a :: rest) (hW : 2 * g.monitorRoom + (rest.map fun v => v.category).sum ≤ W9) (hdg : decode c.code g.pc = .ok (.invokespecial index, 3))
    (hpre : ∀ vm₁, s.WarmedH vm₁ → Pre ⟨T.setVm vm₁, locs, cells, slots⟩ (Value.ref a :: argsL).toArray) :
    (∃ (v : Option Value) (vm₁ : Vm) (B : Pt), s.WarmedH vm₁ ∧ Stand p l e R s m args below meth c B.U B.locs B.cells B.slots ∧ Post ⟨T.setVm vm₁, locs, cells, slots⟩ (Value.ref a :: argsL).toArray v B ∧
      ∀ target, Steps p.tables e below (B.U.setTop { g with pc := g.pc + 3, stack := v.toList ++ rest }) target → Steps p.tables e below (T.setTop g) target) ∨
    (∃ (q : Addr) (vm₁ : Vm) (B : Pt), s.WarmedH vm₁ ∧ Stand p l e R s m args below meth c B.U B.locs B.cells B.slots ∧ PostX ⟨T.setVm vm₁, locs, cells, slots⟩ (Value.ref a :: argsL).toArray q B ∧
      Steps p.tables e below (T.setTop g) ((B.U.setTop { g with stack := rest }).pushFrame (.throwing q))) := by
  subst hg
  have hpl : e.platform.magicAccessors = ({} : Platform).magicAccessors := by rw [X.admits.platform]
  obtain ⟨mk, methM, cM, kP, vm₁, hnamed, hmethM, hcodeM, -, hlocalsM, -, hkP, -, hW₁, hstep₁⟩ := Steps.initColdArgsNest (e := e) X.here hexec X.warmed hpl hown hy1 hy hlink hinst hcode (f := g) rfl hlen hstack hdg
  have X₁ := X.noted hW₁
  rcases hK g.method meth c ⟨T.setVm vm₁, locs, cells, slots⟩ { g with stack := rest } (.invokespecial index) mk (Value.ref a :: argsL).toArray X₁ rfl hsize hdg hW (X₁.named hnamed) (hpre vm₁ X₁.warmed) with ⟨v, B, X', hpost, hsteps⟩ | ⟨q, B, X', hpost, hsteps⟩
  · exact Or.inl ⟨v, vm₁, B, X₁.warmed, X', hpost, fun target h => hstep₁ _ fun acts => by rw [doInvoke_state]; exact hsteps.trans h⟩
  · exact Or.inr ⟨q, vm₁, B, X₁.warmed, X', hpost, hstep₁ _ fun acts => by rw [doInvoke_state]; exact hsteps⟩
end VXIC
section VXID
variable {p : Program} {l : Launch} {e : Env} {R : Room} {s : State} {m : MethodId} {args : Array Value} {below : List Frame} {meth : Method} {c : Code} {H : Heap} {locs : List Loc} {cells slots : Nat}
theorem vx_runIN {y : MethodName} {bytes cc : ByteArray} {maxL nL mc ms n index : Nat} {ws : List Cond} {rm : Room} {Pc : Array Value → State → Prop} {Qc : Array Value → State → Outcome → State → Prop} {XC : String → State → State → Prop} {free : Addr → Prop} {Ts : List Cond} {own host : String} {b : Addr} {As rest : List Value} {g : JFrame}
    (S : CallFix p m c cc nL s args Ts own) (hM : vx_Met l y ws rm Pc Qc XC mc ms free) (cw : va_CN R s args own index y host bytes maxL none ws rm mc ms n ∧ y.name = "<init>" ∧ (Cond.instanceMethod y).before args s = true) (hp : PreS s H Pc (.ref b :: As))
    (hg : g.method = m) (hn : As.length = n) (hsize : g.locals.size = nL) (hstack : g.stack = As.reverse ++ .ref b :: rest) (hW : 2 * g.monitorRoom + (rest.map fun v => v.category).sum ≤ 8) (hdg : decode cc g.pc = .ok (.invokespecial index, 3)) (hf : cells + mc ≤ R.cells ∧ slots + ms ≤ R.slots) :
    vx_Run p l e R s m args below meth c H locs cells slots mc ms g rest (Qc (Value.ref b :: As).toArray) XC free := by
  obtain ⟨⟨⟨hrc, hrs, hfr, hlo, hws, hcw⟩, hcode, hini, hy, hlen, hl⟩, hx1, hx2⟩ := cw
  have hK : vx_Back l R p e below s args y 3 8 (PreOf R mc ms Pc) (PostOf Qc mc ms free) (vx_Post XC mc ms free) := vx_back (bytes := bytes) (maxL := maxL) (ret := none) hM hp.1 hrc hrs hfr hlo hws hcw (fun a' U hW => word_at hW (Or.inl (by first | rfl | simp [Cond.onTables, Cond.keeps, Cond.steady])) hini)
  obtain ⟨hx, hb, hml, ho, -⟩ := S
  have hPc := hp.2
  intro T hT X
  rcases vx_callIN X hx (bytes := bytes) (maxL := maxL) ho hx1 hl hx2 hcode hy hK hg (hsize.trans hml.symm) (a := b) (argsL := As) (rest := rest) (fun sig h => hn.trans (hlen sig h)) hstack hW (by rw [hb]; exact hdg)
    (fun vm₁ hW₁ => ⟨hf.1, hf.2, hPc (T.setVm vm₁) hT hW₁⟩) with ⟨v, vm₁, ⟨U', l2, c2, s2⟩, hW₁, X', ⟨g', mk, t, L, e1, e2, hq, h1, hL, h2, h3⟩, st⟩ | ⟨q, vm₁, ⟨U', l2, c2, s2⟩, hW₁, X', ⟨g', mk, t, L, E, ce, e1, e2, hq, hce, hcv, hcl, h1, hL, h2, h3⟩, st⟩
  · dsimp only [Pt.U, Pt.locs, Pt.cells, Pt.slots] at X' e1 e2 h1 h2 h3 st
    subst h1; subst h2; subst h3
    exact Or.inl ⟨v, (T.setVm vm₁).calling g' mk (Value.ref b :: As).toArray, t, U', L, hT, X', hL, e1, e2, hq, st⟩
  · dsimp only [Pt.U, Pt.locs, Pt.cells, Pt.slots] at X' e1 e2 h1 h2 h3 st hcl
    subst h1; subst h2; subst h3
    exact Or.inr ⟨q, (T.setVm vm₁).calling g' mk (Value.ref b :: As).toArray, t, U', L, E, ce, hT, X', hL, e1, e2, hq, hce, hcv, vx_cls hW₁ hcl, st⟩
end VXID
/-! ===== END ===== -/
section AWC
variable {γ : GG} {M : MD} {d kc ks pc : Nat} {ls : List (Nat × AV)} {st : List AV} {h : AH} {Q : AR → AH → Prop}
theorem NX.end {b kc9 : Nat} {Zn : Prop} (hN : NX γ h b kc9 Zn) (hkc9 : kc9 = 0 ∨ nx h = none) : NX γ h b 0 Zn := by
  rcases hkc9 with rfl | h9
  · exact hN
  · refine ⟨?_, fun _ => h9⟩
    intro n hn
    rw [h9] at hn
    cases hn
theorem aw_ireturn {z : Int} (hd : decode M.2.1 pc = .ok (.ireturn, 1)) (hr9 : M.2.2.2.1 = some .int) (hkc9 : kc = 0 ∨ nx h = none) (hq : Q (.inl (some (vi z))) h) : AW γ M d kc ks pc ls [vi z] h Q := by
  intro p l e R s m args below meth c D E Zn mc ms H locs cells slots lsM F V
  obtain ⟨hx, hb, hr, hml, hown, hlocks, hname, htab, htr, hG, hfr, hlo, hmc, hms, hK, hsz⟩ := id F
  obtain ⟨hc1, hc2, hR, hS, hl, hN⟩ := id V
  refine W.widen (k := mc) (n := ms) (by omega) (by omega) (vx_ret (W.iret hx hb (hr.trans hr9) (fun t ht hW => ⟨some (vi z), h, rfl, hq, by rw [ht]; exact hR, hS.F ht, NX.end hN hkc9⟩) hS.2.2 hd hlocks))
theorem aw_zreturn {z : Int} (hd : decode M.2.1 pc = .ok (.ireturn, 1)) (hr9 : M.2.2.2.1 = some .boolean) (hz : z = 0 ∨ z = 1) (hkc9 : kc = 0 ∨ nx h = none) (hq : Q (.inl (some (vi z))) h) : AW γ M d kc ks pc ls [vi z] h Q := by
  intro p l e R s m args below meth c D E Zn mc ms H locs cells slots lsM F V
  obtain ⟨hx, hb, hr, hml, hown, hlocks, hname, htab, htr, hG, hfr, hlo, hmc, hms, hK, hsz⟩ := id F
  obtain ⟨hc1, hc2, hR, hS, hl, hN⟩ := id V
  refine W.widen (k := mc) (n := ms) (by omega) (by omega) (vx_ret (W.zret hx hb (hr.trans hr9) (by rcases hz with rfl | rfl <;> rfl) (fun t ht hW => ⟨some (vi z), h, rfl, hq, by rw [ht]; exact hR, hS.F ht, NX.end hN hkc9⟩) hS.2.2 hd hlocks))
theorem nar_c {z : Int} (hz : 0 ≤ z ∧ z ≤ 65535) : narrow .char (.int (Int32.ofInt z)) = .int (Int32.ofInt z) := by
  obtain ⟨n, hn⟩ := Int.eq_ofNat_of_zero_le hz.1
  have h1 : n < 65536 := by omega
  subst hn
  have e1 : (Int32.ofInt (n : Int)).toUInt32 = UInt32.ofNat n := by
    apply UInt32.toNat_inj.mp
    simp [Int32.toUInt32, Int32.ofInt]
    exact UInt32.toNat_ofNat'
  show Value.int ((Int32.ofInt (n : Int)).toUInt32 % 65536).toInt32 = _
  congr 1
  rw [e1]
  have e2 : UInt32.ofNat n % 65536 = UInt32.ofNat n := by
    apply UInt32.toNat_inj.mp
    rw [UInt32.toNat_mod]
    simp
    omega
  rw [e2, ← e1]
  rfl
theorem aw_creturn {z : Int} (hd : decode M.2.1 pc = .ok (.ireturn, 1)) (hr9 : M.2.2.2.1 = some .char) (hz : 0 ≤ z ∧ z ≤ 65535) (hkc9 : kc = 0 ∨ nx h = none) (hq : Q (.inl (some (vi z))) h) : AW γ M d kc ks pc ls [vi z] h Q := by
  intro p l e R s m args below meth c D E Zn mc ms H locs cells slots lsM F V
  obtain ⟨hx, hb, hr, hml, hown, hlocks, hname, htab, htr, hG, hfr, hlo, hmc, hms, hK, hsz⟩ := id F
  obtain ⟨hc1, hc2, hR, hS, hl, hN⟩ := id V
  refine W.widen (k := mc) (n := ms) (by omega) (by omega) (vx_ret (W.zret hx hb (hr.trans hr9) (nar_c hz) (fun t ht hW => ⟨some (vi z), h, rfl, hq, by rw [ht]; exact hR, hS.F ht, NX.end hN hkc9⟩) hS.2.2 hd hlocks))
theorem aw_breturn {z : Int} (hd : decode M.2.1 pc = .ok (.ireturn, 1)) (hr9 : M.2.2.2.1 = some .byte) (hz : -128 ≤ z ∧ z ≤ 127) (hkc9 : kc = 0 ∨ nx h = none) (hq : Q (.inl (some (vi z))) h) : AW γ M d kc ks pc ls [vi z] h Q := by
  intro p l e R s m args below meth c D E Zn mc ms H locs cells slots lsM F V
  obtain ⟨hx, hb, hr, hml, hown, hlocks, hname, htab, htr, hG, hfr, hlo, hmc, hms, hK, hsz⟩ := id F
  obtain ⟨hc1, hc2, hR, hS, hl, hN⟩ := id V
  refine W.widen (k := mc) (n := ms) (by omega) (by omega) (vx_ret (W.zret hx hb (hr.trans hr9) (by show Value.int ((Int32.ofInt z).toInt8.toInt32) = _; exact congrArg Value.int (nar_b hz)) (fun t ht hW => ⟨some (vi z), h, rfl, hq, by rw [ht]; exact hR, hS.F ht, NX.end hN hkc9⟩) hS.2.2 hd hlocks))
theorem aw_lreturn {z : Int64} (hd : decode M.2.1 pc = .ok (.lreturn, 1)) (hr9 : M.2.2.2.1 = some .long) (hkc9 : kc = 0 ∨ nx h = none) (hq : Q (.inl (some (vl z))) h) : AW γ M d kc ks pc ls [vl z] h Q := by
  intro p l e R s m args below meth c D E Zn mc ms H locs cells slots lsM F V
  obtain ⟨hx, hb, hr, hml, hown, hlocks, hname, htab, htr, hG, hfr, hlo, hmc, hms, hK, hsz⟩ := id F
  obtain ⟨hc1, hc2, hR, hS, hl, hN⟩ := id V
  refine W.widen (k := mc) (n := ms) (by omega) (by omega) (vx_ret (W.lret hx hb (hr.trans hr9) (fun t ht hW => ⟨some (vl z), h, rfl, hq, by rw [ht]; exact hR, hS.F ht, NX.end hN hkc9⟩) hS.2.2 hd hlocks))
theorem aw_areturn {z : Option Nat} {rt : FieldType} (hd : decode M.2.1 pc = .ok (.areturn, 1)) (hr9 : M.2.2.2.1 = some rt) (hrt : (∃ n, rt = .object n) ∨ ∃ t, rt = .array t) (hkc9 : kc = 0 ∨ nx h = none) (hq : Q (.inl (some (vr z))) h) : AW γ M d kc ks pc ls [vr z] h Q := by
  intro p l e R s m args below meth c D E Zn mc ms H locs cells slots lsM F V
  obtain ⟨hx, hb, hr, hml, hown, hlocks, hname, htab, htr, hG, hfr, hlo, hmc, hms, hK, hsz⟩ := id F
  obtain ⟨hc1, hc2, hR, hS, hl, hN⟩ := id V
  refine W.widen (k := mc) (n := ms) (by omega) (by omega) (vx_ret (W.aret (v := cV (vr z)) hx hb (hr.trans hr9) hrt (by cases z with | none => exact Or.inl rfl | some a => exact Or.inr ⟨a, rfl⟩) (fun t ht hW => ⟨some (vr z), h, rfl, hq, by rw [ht]; exact hR, hS.F ht, NX.end hN hkc9⟩) hS.2.2 hd hlocks))
theorem aw_return (hd : decode M.2.1 pc = .ok (.return_, 1)) (hr9 : M.2.2.2.1 = none) (hkc9 : kc = 0 ∨ nx h = none) (hq : Q (.inl none) h) : AW γ M d kc ks pc ls [] h Q := by
  intro p l e R s m args below meth c D E Zn mc ms H locs cells slots lsM F V
  obtain ⟨hx, hb, hr, hml, hown, hlocks, hname, htab, htr, hG, hfr, hlo, hmc, hms, hK, hsz⟩ := id F
  obtain ⟨hc1, hc2, hR, hS, hl, hN⟩ := id V
  refine W.widen (k := mc) (n := ms) (by omega) (by omega) (vx_ret (W.vret hx hb (hr.trans hr9) (fun t ht hW => ⟨none, h, rfl, hq, by rw [ht]; exact hR, hS.F ht, NX.end hN hkc9⟩) hS.2.2 hd hlocks))
/-! a method called: its words -/
def mName (M : MD) (n : Nat) : Prop := M.2.2.2.2 = [] ∧ plainName M.1.cls = true ∧ M.1.cls ≠ "java/lang/invoke/MethodHandle" ∧ M.1.cls ≠ "java/lang/invoke/VarHandle" ∧ (parseMethodDescriptor M.1.desc).map (fun d => d.parameters.length) = some n ∧ Cond.code M.1 M.2.1 M.2.2.1 M.2.2.2.1 ∈ lw_tbl ∧ Cond.initialized M.1.cls ∈ lw_tbl ∧ M.2.2.1 ≤ 21
def mV (M : MD) (n : Nat) : Prop := mName M n ∧ Cond.instanceMethod M.1 ∈ lw_tbl ∧ Cond.selects M.1.cls M.1 M.1 ∈ lw_tbl
def mS (M : MD) (n : Nat) : Prop := mName M n ∧ Cond.static M.1 ∈ lw_tbl
def mI (M : MD) (n : Nat) : Prop := mName M n ∧ Cond.instanceMethod M.1 ∈ lw_tbl ∧ M.1.name = "<init>" ∧ M.2.2.2.1 = none
/-- an object's address and its class -/
def isO (h : AH) (a : Nat) (C : String) : Prop := ∃ ci, kd h a = some (.inl ci) ∧ ∃ T N, vwCl[ci]? = some (C, T, N)
theorem PcO.blind {γ : GG} {D : va_G} {E : Nat → ClassId} {as : List AV} {h : AH} : FrameBlind (PcO γ D E as h) := by
  intro a U g mk ⟨q1, q2, q3, q4, q5, q6⟩
  exact ⟨q1, q2.warm (State.WarmedH.refl U) (fun a _ _ => rfl), va_K.moved (u := U) (U := U.calling g mk a) (Vm.Alike.refl U.vm) q3, q4, q5, q6⟩
theorem PcO.of {γ : GG} {D : va_G} {E : Nat → ClassId} {as : List AV} {h : AH} {s : State} {H : Heap} {locs : List Loc} (hG : Gb γ s) (hK : va_K D vwCl (tysE E) s) (hR : RelH D E γ.1 h H) (hS : va_S (fun q => γ.1 ≤ q) s.heap H locs) (hsz : γ.1 ≤ s.heap.size) (hN9 : NX γ h H.size 0 False) : ∀ U : State, U.heap = H → s.WarmedH U.vm → PcO γ D E as h (as.map cV).toArray U := by
  intro U hU hW
  exact ⟨rfl, hG.warm hW (fun a h1 h2 => by rw [hU]; exact hS.2.1 a h1 h2), va_K.moved hW.alike hK, by rw [hU]; exact hR, by rw [hU]; exact Nat.le_trans hsz hS.1, by rw [hU]; exact hN9⟩
theorem aw_run {M' : MD} {d' kc' ks' : Nat} {Q' : AR → AH → Prop} {p : Program} {l : Launch} {e : Env} {R : Room} {s : State} {m : MethodId} {args : Array Value} {below : List Frame} {meth : Method} {c : Code} {D : va_G} {E : Nat → ClassId} {Zn : Prop} {mc ms : Nat} {H : Heap} {locs : List Loc} {cells slots : Nat} {lsM : Array Slot} {st0 : List Value} {a9 : Array Value}
    (F : Fx γ M d p l R s m meth c D E Zn mc ms) (V : Mv γ M kc ks ls h s H locs cells slots lsM D E Zn mc ms) (ht0 : M.2.2.2.2 = []) (h1 : kc' ≤ kc) (h2 : ks' ≤ ks)
    (hrun : NX γ h H.size 0 False → vx_Run p l e R s m args below meth c H locs cells slots kc' ks' (F0 m pc lsM st0) (st.map cV) (QcO γ D E kc' (nx h = none) Q' a9) (XcO γ D E Q') (fun q => γ.1 ≤ q))
    (kk : ∀ (v : Option AV) (h' : AH), Q' (.inl v) h' → AW γ M d (kc - kc') (ks - ks') (pc + 3) ls (v.toList ++ st) h' Q) (kx : ∀ (X : String) (h' : AH), Q' (.inr X) h' → Q (.inr X) h') :
    W p l e R s m args below meth c H locs cells slots (vx_MQ below (QcO γ D E mc Zn Q) (XcO γ D E Q) args s mc ms (fun q => γ.1 ≤ q)) (F0 m pc lsM st0) := by
  obtain ⟨hx, hb, hr, hml, hown, hlocks, hname, htab, htr, hG, hfr, hlo, hmc, hms, hK, hsz⟩ := id F
  obtain ⟨hc1, hc2, hR, hS, hl, hN⟩ := id V
  intro T hT X
  have hb9 : H.size ≤ s.heap.size + cells := by rw [← hT]; exact X.heapSize
  have hN9 : NX γ h H.size 0 False := ⟨fun n hn => ⟨(hN.1 n hn).1, by have := (hN.1 n hn).2; omega⟩, fun z => z.elim⟩
  rcases hrun hN9 T hT X with ⟨v, st₀, t, T', L, h0, X', hL, e1, e2, ⟨v', h', ev, hq, hR', hF, hN'⟩, go⟩ | ⟨q, st₀, t, T', L, X9, ce, h0, X', hL, e1, e2, ⟨h', hq, hR', hF, hN'⟩, hce, hcv, hcl, go⟩
  · obtain ⟨k1, k2, k3⟩ := vx_keep (A0 := fun q => γ.1 ≤ q) (A1 := fun q => γ.1 ≤ q) h0 e1 hS (fun _ _ z => z) (fun _ z => z) hL hF
    have ev' : v = v'.map cV := by cases ev; rfl
    have hNN : NX γ h' (s.heap.size + mc) (kc - kc') Zn := by
      refine ⟨fun n' hn' => ⟨(hN'.1 n' hn').1, ?_⟩, fun z => hN'.2 (hN.2 z)⟩
      cases hx : nx h with
      | none => rw [hN'.2 hx] at hn'; cases hn'
      | some n =>
        have q1 := (hN'.1 n' hn').2
        have q2 := (hN.1 n hx).2
        have q3 := nx_at hN hc1 hR hS hsz hb9 n hx
        rw [h0] at q1
        omega
    have K := kk v' h' hq p l e R s m args below meth c D E Zn mc ms T'.heap (locs ++ L) (cells + kc') (slots + ks') lsM F ⟨by omega, by omega, by rw [e1]; exact hR', k3, hl, hNN⟩ T' rfl X'
    obtain ⟨t2, a1, b1⟩ := K
    refine ⟨t2, go t2 ?_, b1⟩
    have es : v.toList ++ st.map cV = (v'.toList ++ st).map cV := by
      rw [ev', List.map_append]
      cases v' <;> rfl
    show Steps p.tables e below (T'.setTop (F0 m (pc + 3) lsM (v.toList ++ st.map cV))) t2
    rw [es]
    exact a1
  · obtain ⟨k1, k2, k3⟩ := vx_keep (A0 := fun q => γ.1 ≤ q) (A1 := fun q => γ.1 ≤ q) h0 e1 hS (fun _ _ z => z) (fun _ z => z) hL hF
    have hout : ∀ x ∈ c.exceptionTable.toList, covers x pc = false := by
      intro x hx
      rw [htab, ht0] at hx
      cases hx
    have K := vx_out (ls := lsM) (rest := st.map cV) (below := below) (args := args) (l := l) (p := p) (e := e) (R := R) (Qc := QcO γ D E mc Zn Q) (XC := XcO γ D E Q) (free := fun q => γ.1 ≤ q) (locs := locs ++ L) (cells := cells + kc') (slots := slots + ks') (mc := mc) (ms := ms) hout hlocks (by rw [e1]; exact hce) hcv hcl (fun t9 ht9 hal => ⟨h', kx _ _ hq, by rw [ht9, e1]; exact hR', k3.F ht9, hN'⟩) k3.2.2 (by omega) (by omega) T' rfl X'
    obtain ⟨t2, a1, b1⟩ := K
    exact ⟨t2, go.trans a1, b1⟩
theorem call_words {M' : MD} {n : Nat} (hm : mName M' n) : mCode M' = .code M'.1 M'.2.1 M'.2.2.1 M'.2.2.2.1 := by
  unfold mCode
  rw [if_pos hm.1]
theorem call_B {M' : MD} {d' kc' ks' n idx : Nat} {p : Program} {l : Launch} {R : Room} {s : State} {m : MethodId} {args : Array Value} {meth : Method} {c : Code} {D : va_G} {E : Nat → ClassId} {Zn : Prop} {mc ms : Nat} (F : Fx γ M d p l R s m meth c D E Zn mc ms) (hm : mName M' n) (hlk : Cond.methodLink M.1.cls idx M'.1 ∈ lw_tbl) (hd' : d' + 1 ≤ d) :
    CallB R s args M.1.cls idx M'.1 M'.2.1 M'.2.2.1 M'.2.2.2.1 [mCode M'] (rmO d' kc' ks') kc' ks' n := by
  obtain ⟨hx, hb, hr, hml, hown, hlocks, hname, htab, htr, hG, hfr, hlo, hmc, hms, hK, hsz⟩ := id F
  refine ⟨rfl, rfl, by show d' + 1 ≤ _; omega, by show 8 + (_ + 11) + 40 * d' ≤ _; have := hm.2.2.2.2.2.2.2; omega, ?_, ?_, F.ts hm.2.2.2.2.2.1 rfl, F.ts hm.2.2.2.2.2.2.1 rfl, ⟨hm.2.2.1, hm.2.2.2.1⟩, fun sig h9 => ?_, F.ts hlk rfl⟩
  · intro w hw a' U hW
    rw [List.mem_singleton.mp hw, call_words hm]
    exact (hG.1.warm hW).use hm.2.2.2.2.2.1 rfl
  · rw [call_words hm]
    exact List.mem_cons_self
  · have h2 := hm.2.2.2.2.1
    rw [h9] at h2
    exact (Option.some.inj h2).symm
/-- a virtual call -/
theorem aw_invV {M' : MD} {d' kc' ks' n idx a : Nat} {as as' : List AV} {Q' : AR → AH → Prop} (hd : decode M.2.1 pc = .ok (.invokevirtual idx, 3)) (hm : mV M' n) (hlk : Cond.methodLink M.1.cls idx M'.1 ∈ lw_tbl) (ht0 : M.2.2.2.2 = [])
    (hC : Call γ M' d' kc' ks' (vr (some a) :: as) h Q') (ho : isO h a M'.1.cls) (has : as' = as.reverse) (hn : as.length = n) (hd' : d' + 1 ≤ d) (h1 : kc' ≤ kc) (h2 : ks' ≤ ks) (hst : st.length ≤ 4)
    (kk : ∀ (v : Option AV) (h' : AH), Q' (.inl v) h' → AW γ M d (kc - kc') (ks - ks') (pc + 3) ls (v.toList ++ st) h' Q) (kx : ∀ (X : String) (h' : AH), Q' (.inr X) h' → Q (.inr X) h') : AW γ M d kc ks pc ls (as' ++ vr (some a) :: st) h Q := by
  intro p l e R s m args below meth c D E Zn mc ms H locs cells slots lsM F V
  obtain ⟨hx, hb, hr, hml, hown, hlocks, hname, htab, htr, hG, hfr, hlo, hmc, hms, hK, hsz⟩ := id F
  obtain ⟨hc1, hc2, hR, hS, hl, hN⟩ := id V
  subst has
  have hss := st_sum st
  have hrv : (List.map cV (as.reverse ++ vr (some a) :: st)) = (as.map cV).reverse ++ .ref a :: st.map cV := by
    rw [List.map_append, List.map_reverse]; rfl
  rw [hrv]
  obtain ⟨ci, hk9, T9, N9, hc9⟩ := ho
  obtain ⟨L, q0, g1, g2, g3, g4, g5⟩ := hR.get hk9
  rw [conc_obj hk9] at g5
  refine aw_run (M' := M') (d' := d') F V ht0 h1 h2 (fun hN9 => vx_runV (As := as.map cV) (Ts := []) (n := n) ⟨hx, hb, hml, hown, fun w hw => by cases hw⟩ (hC l D E htr) ⟨call_B F hm.1 hlk hd', F.ts hm.2.1 rfl, F.ts hm.2.2 rfl⟩ ⟨PcO.blind, va_recv hK g2 hc9 g5, ?_⟩ rfl (by rw [List.length_map]; exact hn) hl.1 rfl (lv_room (by omega)) hd ⟨by omega, by omega⟩) kk kx
  exact PcO.of (as := vr (some a) :: as) hG hK hR hS hsz hN9
/-- a static call -/
theorem aw_invS {M' : MD} {d' kc' ks' n idx : Nat} {as as' : List AV} {Q' : AR → AH → Prop} (hd : decode M.2.1 pc = .ok (.invokestatic idx, 3)) (hm : mS M' n) (hlk : Cond.methodLink M.1.cls idx M'.1 ∈ lw_tbl) (ht0 : M.2.2.2.2 = [])
    (hC : Call γ M' d' kc' ks' as h Q') (has : as' = as.reverse) (hn : as.length = n) (hd' : d' + 1 ≤ d) (h1 : kc' ≤ kc) (h2 : ks' ≤ ks) (hst : st.length ≤ 4)
    (kk : ∀ (v : Option AV) (h' : AH), Q' (.inl v) h' → AW γ M d (kc - kc') (ks - ks') (pc + 3) ls (v.toList ++ st) h' Q) (kx : ∀ (X : String) (h' : AH), Q' (.inr X) h' → Q (.inr X) h') : AW γ M d kc ks pc ls (as' ++ st) h Q := by
  intro p l e R s m args below meth c D E Zn mc ms H locs cells slots lsM F V
  obtain ⟨hx, hb, hr, hml, hown, hlocks, hname, htab, htr, hG, hfr, hlo, hmc, hms, hK, hsz⟩ := id F
  obtain ⟨hc1, hc2, hR, hS, hl, hN⟩ := id V
  subst has
  have hss := st_sum st
  rw [List.map_append, List.map_reverse]
  refine aw_run (M' := M') (d' := d') F V ht0 h1 h2 (fun hN9 => vx_runS (As := as.map cV) (Ts := []) (n := n) ⟨hx, hb, hml, hown, fun w hw => by cases hw⟩ (hC l D E htr) ⟨call_B F hm.1 hlk hd', F.ts hm.2 rfl⟩ ⟨PcO.blind, ?_⟩ rfl (by rw [List.length_map]; exact hn) hl.1 rfl (lv_room (by omega)) hd ⟨by omega, by omega⟩) kk kx
  exact PcO.of (as := as) hG hK hR hS hsz hN9
/-- a constructor -/
theorem aw_invI {M' : MD} {d' kc' ks' n idx a : Nat} {as as' : List AV} {Q' : AR → AH → Prop} (hd : decode M.2.1 pc = .ok (.invokespecial idx, 3)) (hm : mI M' n) (hlk : Cond.methodLink M.1.cls idx M'.1 ∈ lw_tbl) (ht0 : M.2.2.2.2 = [])
    (hC : Call γ M' d' kc' ks' (vr (some a) :: as) h Q') (has : as' = as.reverse) (hn : as.length = n) (hd' : d' + 1 ≤ d) (h1 : kc' ≤ kc) (h2 : ks' ≤ ks) (hst : st.length ≤ 4)
    (kk : ∀ (v : Option AV) (h' : AH), Q' (.inl v) h' → AW γ M d (kc - kc') (ks - ks') (pc + 3) ls (v.toList ++ st) h' Q) (kx : ∀ (X : String) (h' : AH), Q' (.inr X) h' → Q (.inr X) h') : AW γ M d kc ks pc ls (as' ++ vr (some a) :: st) h Q := by
  intro p l e R s m args below meth c D E Zn mc ms H locs cells slots lsM F V
  obtain ⟨hx, hb, hr, hml, hown, hlocks, hname, htab, htr, hG, hfr, hlo, hmc, hms, hK, hsz⟩ := id F
  obtain ⟨hc1, hc2, hR, hS, hl, hN⟩ := id V
  subst has
  have hss := st_sum st
  have hrv : (List.map cV (as.reverse ++ vr (some a) :: st)) = (as.map cV).reverse ++ .ref a :: st.map cV := by
    rw [List.map_append, List.map_reverse]; rfl
  rw [hrv]
  have hB := call_B (args := args) (kc' := kc') (ks' := ks') F hm.1 hlk hd'
  rw [hm.2.2.2] at hB
  refine aw_run (M' := M') (d' := d') F V ht0 h1 h2 (fun hN9 => vx_runI (As := as.map cV) (Ts := []) (n := n) ⟨hx, hb, hml, hown, fun w hw => by cases hw⟩ (hC l D E htr) ⟨hB, hm.2.2.1, F.ts hm.2.1 rfl⟩ ⟨PcO.blind, ?_⟩ rfl (by rw [List.length_map]; exact hn) hl.1 rfl (lv_room (by omega)) hd ⟨by omega, by omega⟩) kk kx
  exact PcO.of (as := vr (some a) :: as) hG hK hR hS hsz hN9
/-- a private constructor of a nest mate -/
theorem aw_invIN {M' : MD} {host : String} {d' kc' ks' n idx a : Nat} {as as' : List AV} {Q' : AR → AH → Prop} (hd : decode M.2.1 pc = .ok (.invokespecial idx, 3)) (hm : mI M' n) (hlk : Cond.methodLinkNest M.1.cls idx M'.1 host ∈ lw_tbl) (ht0 : M.2.2.2.2 = [])
    (hC : Call γ M' d' kc' ks' (vr (some a) :: as) h Q') (has : as' = as.reverse) (hn : as.length = n) (hd' : d' + 1 ≤ d) (h1 : kc' ≤ kc) (h2 : ks' ≤ ks) (hst : st.length ≤ 4)
    (kk : ∀ (v : Option AV) (h' : AH), Q' (.inl v) h' → AW γ M d (kc - kc') (ks - ks') (pc + 3) ls (v.toList ++ st) h' Q) (kx : ∀ (X : String) (h' : AH), Q' (.inr X) h' → Q (.inr X) h') : AW γ M d kc ks pc ls (as' ++ vr (some a) :: st) h Q := by
  intro p l e R s m args below meth c D E Zn mc ms H locs cells slots lsM F V
  obtain ⟨hx, hb, hr, hml, hown, hlocks, hname, htab, htr, hG, hfr, hlo, hmc, hms, hK, hsz⟩ := id F
  obtain ⟨hc1, hc2, hR, hS, hl, hN⟩ := id V
  subst has
  have hss := st_sum st
  have hrv : (List.map cV (as.reverse ++ vr (some a) :: st)) = (as.map cV).reverse ++ .ref a :: st.map cV := by
    rw [List.map_append, List.map_reverse]; rfl
  rw [hrv]
  have hN : va_CN R s args M.1.cls idx M'.1 host M'.2.1 M'.2.2.1 none [mCode M'] (rmO d' kc' ks') kc' ks' n := by
    rw [← hm.2.2.2]
    refine ⟨⟨rfl, rfl, by show d' + 1 ≤ _; omega, by show 8 + (_ + 11) + 40 * d' ≤ _; have := hm.1.2.2.2.2.2.2.2; omega, ?_, ?_⟩, F.ts hm.1.2.2.2.2.2.1 rfl, F.ts hm.1.2.2.2.2.2.2.1 rfl, ⟨hm.1.2.2.1, hm.1.2.2.2.1⟩, fun sig h9 => ?_, F.ts hlk rfl⟩
    · intro w hw a' U hW
      rw [List.mem_singleton.mp hw, call_words hm.1]
      exact (hG.1.warm hW).use hm.1.2.2.2.2.2.1 rfl
    · rw [call_words hm.1]
      exact List.mem_cons_self
    · have h2 := hm.1.2.2.2.2.1
      rw [h9] at h2
      exact (Option.some.inj h2).symm
  refine aw_run (M' := M') (d' := d') F V ht0 h1 h2 (fun hN9 => vx_runIN (As := as.map cV) (Ts := []) (n := n) ⟨hx, hb, hml, hown, fun w hw => by cases hw⟩ (hC l D E htr) ⟨hN, hm.2.2.1, F.ts hm.2.1 rfl⟩ ⟨PcO.blind, ?_⟩ rfl (by rw [List.length_map]; exact hn) hl.1 rfl (lv_room (by omega)) hd ⟨by omega, by omega⟩) kk kx
  exact PcO.of (as := vr (some a) :: as) hG hK hR hS hsz hN9
/-- the constructor of Object -/
theorem aw_objInit {idx a : Nat} (hd : decode M.2.1 pc = .ok (.invokespecial idx, 3)) (hlk : Cond.methodLink M.1.cls idx Lib.objectInit ∈ lw_tbl) (hi : Cond.instanceMethod Lib.objectInit ∈ lw_tbl) (hc9 : Cond.code Lib.objectInit ⟨#[0xb1]⟩ 1 none ∈ lw_tbl) (hd' : 1 ≤ d) (hst : st.length ≤ 4) (kk : AW γ M d kc ks (pc + 3) ls st h Q) : AW γ M d kc ks pc ls (vr (some a) :: st) h Q := by
  intro p l e R s m args below meth c D E Zn mc ms H locs cells slots lsM F V
  obtain ⟨hx, hb, hr, hml, hown, hlocks, hname, htab, htr, hG, hfr, hlo, hmc, hms, hK, hsz⟩ := id F
  obtain ⟨hc1, hc2, hR, hS, hl, hN⟩ := id V
  have hss := st_sum st
  refine W.objInit (a := a) (rest := st.map cV) hx hb hown (F.ts hlk rfl) (F.ts hi rfl) (F.ts hc9 rfl) rfl (by rw [hml]; exact hl.1) rfl hd (by omega) ?_ (kk p l e R s m args below meth c D E Zn mc ms H locs cells slots lsM F V)
  show 2 * 0 + _ + 12 ≤ _
  omega
/-- a method's contract out of its walk -/
theorem Call.of {n : Nat} {as : List AV} (hm : mName M n) (hlen : (lg_sl (as.map cV)).length ≤ M.2.2.1) (hls : lv_args 0 (as.map cV) = ls.map lc) (k : AW γ M d kc ks 0 ls [] h Q) : Call γ M d kc ks as h Q := by
  intro l D E htr
  refine vx_ofW (cc := M.2.1) (maxL := M.2.2.1) (ret := M.2.2.2.1) (ws' := []) hm.2.1 (by rw [call_words hm]) ?_
  intro p e s m args below meth c s₁ B hml htb hv
  obtain ⟨rfl, hG, hK, hR, hsz, hN9⟩ := hv
  have hl := lv_entry (as.map cV) (n := M.2.2.1) hlen
  rw [lg_entry_eq]
  rw [hls] at hl
  refine k p l e _ s m _ below meth c D E (nx h = none) kc ks s.heap [] 0 0 _ ⟨B.exec, B.bytes, B.returns, hml, findClass_of_methodNamed B.named, B.notSynchronized, (name_of_methodNamed B.named B.method).1, ?_, htr, hG, Nat.le_refl d, Nat.le_refl (40 * d), Nat.le_refl kc, Nat.le_refl ks, hK, hsz⟩ ⟨Nat.le_of_eq (Nat.zero_add kc), Nat.le_of_eq (Nat.zero_add ks), hR, va_S.rf, hl, ⟨fun n hn => ⟨(hN9.1 n hn).1, by have := (hN9.1 n hn).2; omega⟩, fun z => z⟩⟩
  rw [hm.1]
  exact List.eq_nil_iff_forall_not_mem.mpr (fun x hx => htb x hx)
theorem Call.mono {as : List AV} {Q' : AR → AH → Prop} (hQ : ∀ r h', Q' r h' → Q r h') (k : Call γ M d kc ks as h Q') : Call γ M d kc ks as h Q := by
  intro l D E htr p e ha hc hk s m args below hf hfit hheap happ
  obtain ⟨t, o, h1, h2, h3, h4⟩ := k l D E htr p e ha hc hk s m args below hf hfit hheap happ
  refine ⟨t, o, h1, h2, h3, ?_⟩
  rcases h4 with ⟨⟨v, h', c1, c2, c3⟩, b4⟩ | ⟨q, c0, E9, ce, L, ⟨h', c2, c3⟩, c4⟩
  · exact Or.inl ⟨⟨v, h', c1, hQ _ _ c2, c3⟩, b4⟩
  · exact Or.inr ⟨q, c0, E9, ce, L, ⟨h', hQ _ _ c2, c3⟩, c4⟩
/-! throws -/
def tW (own : String) (ik is ic : Nat) (cls : String) : Prop := Bundle.fit cls = true ∧ Cond.classLink own ik cls ∈ lw_tbl ∧ Cond.initialized cls ∈ lw_tbl ∧ (∀ w ∈ vx_atS own ic cls ["java/lang/RuntimeException", "java/lang/Exception"], w ∈ lw_tbl ∧ okw w = true) ∧ (∀ w ∈ Cond.classLink own ik cls :: Cond.initialized cls :: vx_atS own ic cls ["java/lang/RuntimeException", "java/lang/Exception"], vx_ot w = true)
theorem aw_throw {ik is ic : Nat} {cls text : String} (hw : tW RX11 ik is ic cls) (hown9 : M.1.cls = RX11) (htx : (is, text) ∈ xTx) (ht0 : M.2.2.2.2 = [])
    (d0 : decode M.2.1 pc = .ok (.new ik, 3)) (d3 : decode M.2.1 (pc + 3) = .ok (.dup, 1)) (d4 : decode M.2.1 (pc + 4) = .ok (.ldc is, 2)) (d6 : decode M.2.1 (pc + 6) = .ok (.invokespecial ic, 3)) (d9 : decode M.2.1 (pc + 9) = .ok (.athrow, 1))
    (hd' : 6 ≤ d) (hst : st.length ≤ 4) (hkc : 1 ≤ kc) (hks : 6 ≤ ks) (hn9 : nx h = none) (hq : Q (.inr cls) h) : AW γ M d kc ks pc ls st h Q := by
  intro p l e R s m args below meth c D E Zn mc ms H locs cells slots lsM F V
  obtain ⟨hx, hb, hr, hml, hown, hlocks, hname, htab, htr, hG, hfr, hlo, hmc, hms, hK, hsz⟩ := id F
  obtain ⟨hc1, hc2, hR, hS, hl, hN⟩ := id V
  have hss := st_sum st
  rw [hown9] at hown
  obtain ⟨sa, hsa⟩ := hG.2.2.2.1 _ htx
  refine vx_throwS (ms := ms) (mc := mc) hx hb htr hown hw.1 (names := ["java/lang/RuntimeException", "java/lang/Exception"]) (by decide +kernel) (F.ts hw.2.1 rfl) (F.ts hw.2.2.1 rfl) hsa (fun w h9 => F.ts (hw.2.2.2.1 w h9).1 (hw.2.2.2.1 w h9).2) hw.2.2.2.2 hG.2.1 hG.2.2.1 hS (hl.1.trans hml.symm) d0 d3 d4 d6 d9 (fun x hx => by rw [htab, ht0] at hx; cases hx) (by show 2 + 3 < _; omega) (by show _ + (13 * 3 + 43) ≤ _; omega) (by omega) (by omega) hlocks (fun t hal hsz9 hkp => ⟨h, hq, hR.kept hkp, ?_, hn9⟩) hS.2.2 (by omega) (by omega)
  exact ⟨Nat.le_trans hS.1 hsz9, fun q g1 g2 => (hkp q (Nat.lt_of_lt_of_le g1 hS.1)).trans (hS.2.1 q g1 g2)⟩
theorem aw_throwW {ik is ic : Nat} {cls text : String} (hw : tW RX11 ik is ic cls) (hown9 : M.1.cls = RX11) (htx : (is, text) ∈ xTx) (ht0 : M.2.2.2.2 = [])
    (d0 : decode M.2.1 pc = .ok (.new ik, 3)) (d3 : decode M.2.1 (pc + 3) = .ok (.dup, 1)) (d4 : decode M.2.1 (pc + 4) = .ok (.ldc_w is, 3)) (d7 : decode M.2.1 (pc + 7) = .ok (.invokespecial ic, 3)) (d10 : decode M.2.1 (pc + 10) = .ok (.athrow, 1))
    (hd' : 6 ≤ d) (hst : st.length ≤ 4) (hkc : 1 ≤ kc) (hks : 6 ≤ ks) (hn9 : nx h = none) (hq : Q (.inr cls) h) : AW γ M d kc ks pc ls st h Q := by
  intro p l e R s m args below meth c D E Zn mc ms H locs cells slots lsM F V
  obtain ⟨hx, hb, hr, hml, hown, hlocks, hname, htab, htr, hG, hfr, hlo, hmc, hms, hK, hsz⟩ := id F
  obtain ⟨hc1, hc2, hR, hS, hl, hN⟩ := id V
  have hss := st_sum st
  rw [hown9] at hown
  obtain ⟨sa, hsa⟩ := hG.2.2.2.1 _ htx
  refine vx_throwSW (ms := ms) (mc := mc) hx hb htr hown hw.1 (names := ["java/lang/RuntimeException", "java/lang/Exception"]) (by decide +kernel) (F.ts hw.2.1 rfl) (F.ts hw.2.2.1 rfl) hsa (fun w h9 => F.ts (hw.2.2.2.1 w h9).1 (hw.2.2.2.1 w h9).2) hw.2.2.2.2 hG.2.1 hG.2.2.1 hS (hl.1.trans hml.symm) d0 d3 d4 d7 d10 (fun x hx => by rw [htab, ht0] at hx; cases hx) (by show 2 + 3 < _; omega) (by show _ + (13 * 3 + 43) ≤ _; omega) (by omega) (by omega) hlocks (fun t hal hsz9 hkp => ⟨h, hq, hR.kept hkp, ?_, hn9⟩) hS.2.2 (by omega) (by omega)
  exact ⟨Nat.le_trans hS.1 hsz9, fun q g1 g2 => (hkp q (Nat.lt_of_lt_of_le g1 hS.1)).trans (hS.2.1 q g1 g2)⟩
end AWC
