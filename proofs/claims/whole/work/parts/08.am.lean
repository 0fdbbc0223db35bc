/-! abstract values (ints as integers modulo 2^32), abstract heaps (kinds, ints, longs, references by address and place) -/
abbrev AV : Type := Int ⊕ (Int64 ⊕ Option Nat)
abbrev vi (z : Int) : AV := Sum.inl z
abbrev vl (x : Int64) : AV := Sum.inr (Sum.inl x)
abbrev vr (o : Option Nat) : AV := Sum.inr (Sum.inr o)
def cV (v : AV) : Value := match v with
  | .inl z => .int (Int32.ofInt z)
  | .inr (.inl x) => .long x
  | .inr (.inr o) => va_rf o
def isL (v : AV) : Bool := match v with
  | .inr (.inl _) => true
  | _ => false
abbrev AK : Type := Nat ⊕ (Nat × Nat)
abbrev AH : Type := (Nat → Option AK) × (Nat → Int → Int) × (Nat → Int → Int64) × (Nat → Int → Option Nat) × Option Nat
def kd (h : AH) (a : Nat) : Option AK := h.1 a
def gi (h : AH) (a : Nat) (j : Int) : Int := h.2.1 a j
def gl (h : AH) (a : Nat) (j : Int) : Int64 := h.2.2.1 a j
def gr (h : AH) (a : Nat) (j : Int) : Option Nat := h.2.2.2.1 a j
/-- where the next cell will lie, if that is told -/
def nx (h : AH) : Option Nat := h.2.2.2.2
def si (h : AH) (a : Nat) (j : Int) (v : Int) : AH := (h.1, (fun b k => if b = a ∧ k = j then v else h.2.1 b k), h.2.2.1, h.2.2.2)
def sl (h : AH) (a : Nat) (j : Int) (v : Int64) : AH := (h.1, h.2.1, (fun b k => if b = a ∧ k = j then v else h.2.2.1 b k), h.2.2.2)
def sr (h : AH) (a : Nat) (j : Int) (v : Option Nat) : AH := (h.1, h.2.1, h.2.2.1, (fun b k => if b = a ∧ k = j then v else h.2.2.2.1 b k), h.2.2.2.2)
/-- a new cell: all zero -/
def mk (h : AH) (a : Nat) (k : AK) : AH := ((fun b => if b = a then some k else h.1 b), (fun b j => if b = a then 0 else h.2.1 b j), (fun b j => if b = a then 0 else h.2.2.1 b j), (fun b j => if b = a then none else h.2.2.2.1 b j), h.2.2.2.2.map (fun n => n + 1))
theorem nx_si (h : AH) (a : Nat) (j v : Int) : nx (si h a j v) = nx h := rfl
theorem nx_sl (h : AH) (a : Nat) (j : Int) (v : Int64) : nx (sl h a j v) = nx h := rfl
theorem nx_sr (h : AH) (a : Nat) (j : Int) (v : Option Nat) : nx (sr h a j v) = nx h := rfl
theorem nx_mk (h : AH) (a : Nat) (k : AK) : nx (mk h a k) = (nx h).map (fun n => n + 1) := rfl
/-- the next cell's place is forgotten -/
def fg (h : AH) : AH := (h.1, h.2.1, h.2.2.1, h.2.2.2.1, none)
theorem kd_si (h : AH) (a : Nat) (j v : Int) (b : Nat) : kd (si h a j v) b = kd h b := rfl
theorem kd_sl (h : AH) (a : Nat) (j : Int) (v : Int64) (b : Nat) : kd (sl h a j v) b = kd h b := rfl
theorem kd_sr (h : AH) (a : Nat) (j : Int) (v : Option Nat) (b : Nat) : kd (sr h a j v) b = kd h b := rfl
theorem kd_mk (h : AH) (a : Nat) (k : AK) (b : Nat) : kd (mk h a k) b = if b = a then some k else kd h b := rfl
theorem gi_si (h : AH) (a : Nat) (j v : Int) (b : Nat) (k : Int) : gi (si h a j v) b k = if b = a ∧ k = j then v else gi h b k := rfl
theorem gi_sl (h : AH) (a : Nat) (j : Int) (v : Int64) (b : Nat) (k : Int) : gi (sl h a j v) b k = gi h b k := rfl
theorem gi_sr (h : AH) (a : Nat) (j : Int) (v : Option Nat) (b : Nat) (k : Int) : gi (sr h a j v) b k = gi h b k := rfl
theorem gi_mk (h : AH) (a : Nat) (k : AK) (b : Nat) (j : Int) : gi (mk h a k) b j = if b = a then 0 else gi h b j := rfl
theorem gl_si (h : AH) (a : Nat) (j v : Int) (b : Nat) (k : Int) : gl (si h a j v) b k = gl h b k := rfl
theorem gl_sl (h : AH) (a : Nat) (j : Int) (v : Int64) (b : Nat) (k : Int) : gl (sl h a j v) b k = if b = a ∧ k = j then v else gl h b k := rfl
theorem gl_sr (h : AH) (a : Nat) (j : Int) (v : Option Nat) (b : Nat) (k : Int) : gl (sr h a j v) b k = gl h b k := rfl
theorem gl_mk (h : AH) (a : Nat) (k : AK) (b : Nat) (j : Int) : gl (mk h a k) b j = if b = a then 0 else gl h b j := rfl
theorem gr_si (h : AH) (a : Nat) (j v : Int) (b : Nat) (k : Int) : gr (si h a j v) b k = gr h b k := rfl
theorem gr_sl (h : AH) (a : Nat) (j : Int) (v : Int64) (b : Nat) (k : Int) : gr (sl h a j v) b k = gr h b k := rfl
theorem gr_sr (h : AH) (a : Nat) (j : Int) (v : Option Nat) (b : Nat) (k : Int) : gr (sr h a j v) b k = if b = a ∧ k = j then v else gr h b k := rfl
theorem gr_mk (h : AH) (a : Nat) (k : AK) (b : Nat) (j : Int) : gr (mk h a k) b j = if b = a then none else gr h b j := rfl
/-! the machine's cells of an abstract heap -/
def fty (ci : Nat) : Nat → FieldType := match ci with
  | 0 => tyX1
  | 1 => tyX2
  | 2 => tyX3
  | 3 => tyX4
  | 4 => tyX5
  | 5 => tyX6
  | 6 => tyX7
  | 7 => tyX8
  | 8 => tyX9
  | 9 => tyX10
  | 10 => tyX11
  | _ => tyX12
def isRT (ty : FieldType) : Bool := match ty with
  | .object _ => true
  | .array _ => true
  | _ => false
def fv (ty : FieldType) (z : Int) (x : Int64) (o : Option Nat) : Value := if ty = .long then .long x else if isRT ty = true then va_rf o else .int (Int32.ofInt z)
def nf (ci : Nat) : Nat := match vwCl[ci]? with
  | some c => c.2.2
  | none => 0
def objE (h : AH) (ci a : Nat) : List Value := (List.range (nf ci)).map fun k => fv (fty ci k) (gi h a k) (gl h a k) (gr h a k)
def atl : List FieldType := [.byte, .int, .long, .boolean, .object "TreeQueries$Path", .object "TreeQueries$Query", .object "TreeQueries$State", .object "TreeQueries$Step"]
def arrE (h : AH) (ti n a : Nat) : vp_A := (n, if ti = 2 then .inr (.inl fun j => gl h a j) else if ti < 4 then .inl (fun j => Int32.ofInt (gi h a j)) else .inr (.inr (.inr (.inr fun j => gr h a j))))
def conc (E : Nat → ClassId) (h : AH) (a : Nat) : va_E := match kd h a with
  | none => .inr (0, [])
  | some (.inl ci) => .inr (ci, objE h ci a)
  | some (.inr q) => .inl (E q.1, arrE h q.1 q.2 a)
def tysE (E : Nat → ClassId) : List (ClassId × FieldType) := (List.range 8).map fun t => (E t, atl.getD t .int)
def RelH (D : va_G) (E : Nat → ClassId) (base : Nat) (h : AH) (H : Heap) : Prop :=
  ∃ L : List Nat, (∀ a, a ∈ L ↔ (kd h a).isSome = true) ∧ va_P D vwCl ([] ++ va_pl L (conc E h)) H ∧ va_D (fun q => base ≤ q) ([] ++ va_pl L (conc E h))
theorem conc_obj {E : Nat → ClassId} {h : AH} {a ci : Nat} (hk : kd h a = some (.inl ci)) : conc E h a = .inr (ci, objE h ci a) := by
  unfold conc
  rw [hk]
theorem conc_arr {E : Nat → ClassId} {h : AH} {a ti n : Nat} (hk : kd h a = some (.inr (ti, n))) : conc E h a = .inl (E ti, arrE h ti n a) := by
  unfold conc
  rw [hk]
theorem objE_get {h : AH} {ci a k : Nat} (hk : k < nf ci) : (objE h ci a)[k]? = some (fv (fty ci k) (gi h a k) (gl h a k) (gr h a k)) := by
  simp [objE, hk]
theorem objE_len (h : AH) (ci a : Nat) : (objE h ci a).length = nf ci := by simp [objE]
theorem objE_ne {h h' : AH} {ci a : Nat} (h1 : ∀ j, gi h' a j = gi h a j) (h2 : ∀ j, gl h' a j = gl h a j) (h3 : ∀ j, gr h' a j = gr h a j) : objE h' ci a = objE h ci a := by
  unfold objE
  simp only [h1, h2, h3]
theorem arrE_ne {h h' : AH} {ti n a : Nat} (h1 : ∀ j, gi h' a j = gi h a j) (h2 : ∀ j, gl h' a j = gl h a j) (h3 : ∀ j, gr h' a j = gr h a j) : arrE h' ti n a = arrE h ti n a := by
  unfold arrE
  simp only [h1, h2, h3]
theorem conc_ne {E : Nat → ClassId} {h h' : AH} {a : Nat} (h0 : kd h' a = kd h a) (h1 : ∀ j, gi h' a j = gi h a j) (h2 : ∀ j, gl h' a j = gl h a j) (h3 : ∀ j, gr h' a j = gr h a j) : conc E h' a = conc E h a := by
  unfold conc
  rw [h0]
  split
  · rfl
  · rw [objE_ne h1 h2 h3]
  · rw [arrE_ne h1 h2 h3]
theorem objE_set {h h' : AH} {ci a k : Nat} (v : Value) (hk : k < nf ci) (hv : fv (fty ci k) (gi h' a k) (gl h' a k) (gr h' a k) = v) (hne : ∀ j : Nat, j ≠ k → gi h' a j = gi h a j ∧ gl h' a j = gl h a j ∧ gr h' a j = gr h a j) : objE h' ci a = (objE h ci a).set k v := by
  apply List.ext_getElem?
  intro j
  by_cases hj : j = k
  · subst hj
    rw [List.getElem?_set_self (by rw [objE_len]; exact hk), objE_get hk, hv]
  · rw [List.getElem?_set_ne (Ne.symm hj)]
    by_cases hl : j < nf ci
    · obtain ⟨e1, e2, e3⟩ := hne j hj
      rw [objE_get hl, objE_get hl, e1, e2, e3]
    · rw [List.getElem?_eq_none (by rw [objE_len]; omega), List.getElem?_eq_none (by rw [objE_len]; omega)]
/-- one cell of the heap written: what the kit's rows give is the new heap's picture -/
theorem RelH.get {D : va_G} {E : Nat → ClassId} {base : Nat} {h : AH} {H : Heap} (hR : RelH D E base h H) {a : Nat} {k : AK} (hk : kd h a = some k) : ∃ (L : List Nat) (q0 : Nat), (∀ a, a ∈ L ↔ (kd h a).isSome = true) ∧ va_P D vwCl ([] ++ va_pl L (conc E h)) H ∧ va_D (fun q => base ≤ q) ([] ++ va_pl L (conc E h)) ∧ a ∈ L ∧ ([] ++ va_pl L (conc E h))[q0]? = some (a, conc E h a) := by
  obtain ⟨L, h1, h2, h3⟩ := hR
  have hm : a ∈ L := (h1 a).mpr (by rw [hk]; rfl)
  obtain ⟨q0, hq⟩ := va_pl_get (X := []) (f := conc E h) hm
  exact ⟨L, q0, h1, h2, h3, hm, hq⟩
theorem RelH.put {D : va_G} {E : Nat → ClassId} {base : Nat} {h h' : AH} {H1 : Heap} {L : List Nat} {q0 a : Nat} {e : va_E} (hL : ∀ a, a ∈ L ↔ (kd h a).isSome = true) (hD0 : va_D (fun q => base ≤ q) ([] ++ va_pl L (conc E h))) (hm : a ∈ L) (hq : ([] ++ va_pl L (conc E h))[q0]? = some (a, conc E h a))
    (hP : va_P D vwCl (([] ++ va_pl L (conc E h)).set q0 (a, e)) H1) (hD : va_D (fun q => base ≤ q) (([] ++ va_pl L (conc E h)).set q0 (a, e)))
    (hk : ∀ b, kd h' b = kd h b) (he : conc E h' a = e) (hne : ∀ b, b ≠ a → (∀ j, gi h' b j = gi h b j) ∧ (∀ j, gl h' b j = gl h b j) ∧ (∀ j, gr h' b j = gr h b j)) : RelH D E base h' H1 := by
  have hc : ∀ b, conc E h' b = va_up (conc E h) a e b := fun b => by
    by_cases hb : b = a
    · subst hb
      rw [va_up_self, he]
    · rw [va_up_ne _ _ hb]
      obtain ⟨e1, e2, e3⟩ := hne b hb
      exact conc_ne (hk b) e1 e2 e3
  rw [va_pl_set hD0 hm hq, va_pl_congr (fun b => (hc b).symm)] at hP hD
  exact ⟨L, fun b => by rw [hk b]; exact hL b, hP, hD⟩
theorem RelH.push {D : va_G} {E : Nat → ClassId} {base : Nat} {h : AH} {H H1 : Heap} {L : List Nat} {a : Nat} {e : va_E} {k : AK} (hL : ∀ a, a ∈ L ↔ (kd h a).isSome = true) (hP0 : va_P D vwCl ([] ++ va_pl L (conc E h)) H) (hD0 : va_D (fun q => base ≤ q) (([] ++ va_pl L (conc E h)) ++ [(a, e)]))
    (hP : va_P D vwCl (([] ++ va_pl L (conc E h)) ++ [(a, e)]) H1) (he : conc E (mk h a k) a = e) : kd h a = none ∧ RelH D E base (mk h a k) H1 := by
  have hfresh : a ∉ L := by
    intro hm
    obtain ⟨q0, hq⟩ := va_pl_get (X := []) (f := conc E h) hm
    have hlt := (List.getElem?_eq_some_iff.mp hq).1
    have h1 : (([] ++ va_pl L (conc E h)) ++ [(a, e)])[q0]? = some (a, conc E h a) := by rw [List.getElem?_append_left hlt]; exact hq
    have h2 : (([] ++ va_pl L (conc E h)) ++ [(a, e)])[([] ++ va_pl L (conc E h)).length]? = some (a, e) := by simp
    have := hD0.1 _ _ _ _ h1 h2 rfl
    omega
  have hkn : kd h a = none := by
    cases hx : kd h a with
    | none => rfl
    | some k => exact absurd ((hL a).mpr (by rw [hx]; rfl)) hfresh
  have hc : ∀ b, conc E (mk h a k) b = va_up (conc E h) a e b := fun b => by
    by_cases hb : b = a
    · subst hb
      rw [va_up_self, he]
    · rw [va_up_ne _ _ hb]
      exact conc_ne (by rw [kd_mk, if_neg hb]) (fun j => by rw [gi_mk, if_neg hb]) (fun j => by rw [gl_mk, if_neg hb]) (fun j => by rw [gr_mk, if_neg hb])
  rw [List.nil_append, va_pl_push hfresh, va_pl_congr (fun b => (hc b).symm)] at hP hD0
  refine ⟨hkn, L ++ [a], fun b => ?_, hP, hD0⟩
  rw [kd_mk]
  by_cases hb : b = a
  · subst hb
    simp
  · rw [if_neg hb, ← hL b]
    simp [hb]
theorem RelH.lt {D : va_G} {E : Nat → ClassId} {base : Nat} {h : AH} {H : Heap} (hR : RelH D E base h H) {a : Nat} {k : AK} (hk : kd h a = some k) : a < H.size ∧ base ≤ a := by
  obtain ⟨L, q0, h1, h2, h3, hm, hq⟩ := hR.get hk
  exact ⟨va_pl_lt h2 hm, h3.2 q0 _ hq⟩
theorem RelH.kept {D : va_G} {E : Nat → ClassId} {base : Nat} {h : AH} {H H1 : Heap} (hR : RelH D E base h H) (hq : ∀ q : Nat, q < H.size → H1[q]? = H[q]?) : RelH D E base h H1 := by
  obtain ⟨L, h1, h2, h3⟩ := hR
  exact ⟨L, h1, h2.kept (fun k q hk => hq q.1 (h2 k q hk).lt), h3⟩
/-! words: those of the tables, told of every state that the run comes to -/
def okw (w : Cond) : Bool := match w with
  | .fieldLinkNest .. => true
  | .methodLinkNest .. => true
  | .castable .. => true
  | .declares _ => true
  | w => goodWord w
def Wd (U : State) : Prop := ∀ w ∈ lw_tbl, okw w = true → w.before #[] U = true
theorem okw_use {w : Cond} (h : okw w = true) {args args' : Array Value} {U : State} (hb : w.before args U = true) : w.before args' U = true := by
  cases w <;> first | exact word_at (State.WarmedH.refl U) (good_of_word h) hb | exact va_tabs rfl rfl hb
theorem Wd.use {U : State} (h : Wd U) {w : Cond} (hm : w ∈ lw_tbl) (ho : okw w = true) {args : Array Value} : w.before args U = true := okw_use ho (h w hm ho)
theorem Wd.warm {s U : State} (hW : s.WarmedH U.vm) (h : Wd s) : Wd U := by
  intro w hm ho
  have hb := h w hm ho
  cases w <;> first | exact word_at hW (good_of_word ho) hb | exact va_Nw.warmF hW hb | exact va_Nw.warmM hW hb | exact va_Nw.warmC hW hb | exact va_Nw.warmD hW hb
