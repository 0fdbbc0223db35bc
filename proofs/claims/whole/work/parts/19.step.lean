def t_dC (a b : TC) : Bool := decide (a = b)
def t_dA (a b : TA) : Bool := decide (a = b)
def t_dP : TP → TP → Bool
  | [], [] => true
  | a :: r, b :: s => t_dA a b && t_dP r s
  | _, _ => false
theorem t_dP_iff : ∀ (p q : TP), t_dP p q = true ↔ p = q := by
  intro p
  induction p with
  | nil => intro q; cases q <;> simp [t_dP]
  | cons a r ih =>
    intro q
    cases q with
    | nil => simp [t_dP]
    | cons b s => simp [t_dP, t_dA, ih]
/-! ===== Step ===== -/
def cAt (ps : List TP) (k : Nat) : Option TC := (ps[k / 9]?).bind fun p => (p[k % 9 / 3]?).bind fun a => a[k % 3]?
theorem slotv_at (ps : List TP) (k : Nat) : slotv ps k = match cAt ps k with | none => 0 | some c => pk c := by
  unfold slotv cAt
  cases ps[k / 9]? with
  | none => rfl
  | some p =>
    show (match p[k % 9 / 3]? with | none => (0 : Int) | some a => match a[k % 3]? with | none => 0 | some c => pk c) = _
    cases hp : p[k % 9 / 3]? with
    | none => simp [hp]
    | some a =>
      simp only [Option.bind_some, hp]
theorem cAt_ok {ps : List TP} (h : ∀ p ∈ ps, okP p) {k : Nat} {c : TC} (hc : cAt ps k = some c) : okC c ∧ ∃ p ∈ ps, ∃ a ∈ p, c ∈ a := by
  unfold cAt at hc
  obtain ⟨p, hp, hc⟩ := Option.bind_eq_some_iff.mp hc
  obtain ⟨a, ha, hc⟩ := Option.bind_eq_some_iff.mp hc
  have m1 := List.mem_of_getElem? hp
  have m2 := List.mem_of_getElem? ha
  have m3 := List.mem_of_getElem? hc
  exact ⟨((h p m1).2.2 a m2).2.2 c m3, p, m1, a, m2, m3⟩
theorem cAt_of {ps : List TP} {i j k : Nat} {p : TP} {a : TA} {c : TC} (hp : ps[i]? = some p) (ha : p[j]? = some a) (hc : a[k]? = some c) (hj : j < 3) (hk : k < 3) : cAt ps (9 * i + 3 * j + k) = some c := by
  have e1 : (9 * i + 3 * j + k) / 9 = i := by omega
  have e2 : (9 * i + 3 * j + k) % 9 / 3 = j := by omega
  have e3 : (9 * i + 3 * j + k) % 3 = k := by omega
  unfold cAt
  rw [e1, e2, e3, hp]
  show (p[j]?).bind _ = _
  rw [ha]
  exact hc
theorem slotv_bd {ps : List TP} (h : ∀ p ∈ ps, okP p) (k : Nat) : 0 ≤ slotv ps k ∧ slotv ps k < 2147483648 := by
  rw [slotv_at]
  cases hc : cAt ps k with
  | none => exact ⟨by decide, by decide⟩
  | some c => have := pk_bd (cAt_ok h hc).1; exact ⟨by show (0 : Int) ≤ pk c; omega, this.2⟩
def shS (h : AH) (a : Nat) : Prop := kd h a = some (.inl 7) ∧ gr h a 3 = some (a + 1) ∧ kd h (a + 1) = some (.inr (1, 27))
def isS (h : AH) (a : Nat) (s : TS) : Prop := shS h a ∧ gi h a 0 = s.1.1 ∧ gi h a 1 = s.1.2 ∧ gi h a 2 = s.2.length ∧ ∀ k : Nat, k < 27 → gi h (a + 1) k = slotv s.2 k
theorem shS.eq {h h' : AH} {a : Nat} (hs : shS h a) (e0 : eqA h h' a) (e1 : eqA h h' (a + 1)) : shS h' a := ⟨e0.1.trans hs.1, ((e0.2 3).2.2).trans hs.2.1, e1.1.trans hs.2.2⟩
theorem isS.eq {h h' : AH} {a : Nat} {s : TS} (hs : isS h a s) (e0 : eqA h h' a) (e1 : eqA h h' (a + 1)) : isS h' a s :=
  ⟨hs.1.eq e0 e1, ((e0.2 0).1).trans hs.2.1, ((e0.2 1).1).trans hs.2.2.1, ((e0.2 2).1).trans hs.2.2.2.1, fun k hk => ((e1.2 k).1).trans (hs.2.2.2.2 k hk)⟩
/-- begin -/
def hBegin (h : AH) (a : Nat) (x t : Int) : AH := fillI (si (si (si h a 0 x) a 1 t) a 2 0) (a + 1) 27 0
theorem eqA.fillI {h : AH} {a b : Nat} {n z : Int} (hb : b ≠ a) : eqA h (fillI h a n z) b := ⟨rfl, fun k => ⟨by rw [gi_fillI, if_neg (fun z => hb z.1)], rfl, rfl⟩⟩
theorem eqO_hBegin (h : AH) (a : Nat) (x t : Int) : eqO h (hBegin h a x t) a (a + 2) := by
  refine ⟨rfl, fun b hb => ?_⟩
  unfold hBegin
  exact (((eqA.si (by omega)).tr (eqA.si (by omega))).tr (eqA.si (by omega))).tr (eqA.fillI (by omega))
theorem isS_hBegin {h : AH} {a : Nat} {x t : Int} (hs : shS h a) : isS (hBegin h a x t) a ((x, t), []) := by
  have key : ∀ j : Int, gi (hBegin h a x t) a j = gi (si (si (si h a 0 x) a 1 t) a 2 0) a j := fun j => by
    unfold hBegin
    rw [gi_fillI, if_neg (fun z => by have := z.1; omega)]
  refine ⟨hs, ?_, ?_, ?_, fun k hk => ?_⟩
  · rw [key, gi_ne (Or.inr (by omega)), gi_ne (Or.inr (by omega)), gi_at rfl rfl]
  · rw [key, gi_ne (Or.inr (by omega)), gi_at rfl rfl]
  · rw [key, gi_at rfl rfl]
    rfl
  · unfold hBegin
    rw [gi_fillI, if_pos ⟨rfl, by omega, by omega⟩]
    simp [slotv]
/-- copyFrom -/
def hCopyS (h : AH) (a b : Nat) : AH := cpI (si (si (si h a 0 (gi h b 0)) a 1 (gi h b 1)) a 2 (gi h b 2)) (b + 1) 0 (a + 1) 0 27
theorem eqO_hCopyS (h : AH) (a b : Nat) : eqO h (hCopyS h a b) a (a + 2) := by
  refine ⟨rfl, fun c hc => ?_⟩
  unfold hCopyS
  refine ⟨rfl, fun k => ⟨?_, rfl, rfl⟩⟩
  rw [gi_cpI, if_neg (fun z => by have := z.1; omega), gi_ne (Or.inl (by omega)), gi_ne (Or.inl (by omega)), gi_ne (Or.inl (by omega))]
theorem isS_hCopyS {h : AH} {a b : Nat} {s : TS} (ha : shS h a) (hb : isS h b s) (hab : a + 2 ≤ b ∨ b + 2 ≤ a) : isS (hCopyS h a b) a s := by
  obtain ⟨-, h0, h1, h2, hs⟩ := hb
  have key : ∀ j : Int, gi (hCopyS h a b) a j = gi (si (si (si h a 0 (gi h b 0)) a 1 (gi h b 1)) a 2 (gi h b 2)) a j := fun j => by
    unfold hCopyS
    rw [gi_cpI, if_neg (fun z => by have := z.1; omega)]
  refine ⟨ha, ?_, ?_, ?_, fun k hk => ?_⟩
  · rw [key, gi_ne (Or.inr (by omega)), gi_ne (Or.inr (by omega)), gi_at rfl rfl, h0]
  · rw [key, gi_ne (Or.inr (by omega)), gi_at rfl rfl, h1]
  · rw [key, gi_at rfl rfl, h2]
  · unfold hCopyS
    rw [gi_cpI, if_pos ⟨rfl, by omega, by omega⟩, gi_ne (Or.inl (by omega)), gi_ne (Or.inl (by omega)), gi_ne (Or.inl (by omega)), show (0 : Int) + (k - 0) = k by omega, hs k hk]
theorem c_sbegin {γ : GG} {h : AH} {a : Nat} {x t : Int} (hS : shS h a) : Call γ mX8_begin 1 0 0 [vr (some a), vi x, vi t] h (rN (hBegin h a x t)) := by
  obtain ⟨hk, hr, hk1⟩ := hS
  refine Call.of (ls := [(0, vr (some a)), (1, vi x), (2, vi t)]) vX8_begin.1 (Nat.le_of_ble_eq_true rfl) rfl ?_
  refine aw_aload_n dX8_begin_0 rfl ?_
  refine aw_iload_n dX8_begin_1 rfl ?_
  refine aw_puti' (j := 0) rfl dX8_begin_2 fX8_9 (by assumption) rfl ?_
  refine aw_aload_n dX8_begin_5 rfl ?_
  refine aw_iload_n dX8_begin_6 rfl ?_
  refine aw_puti' (j := 1) rfl dX8_begin_7 fX8_15 (by assumption) rfl ?_
  refine aw_aload_n dX8_begin_10 rfl ?_
  refine aw_iconst dX8_begin_11 ?_
  refine aw_puti' (j := 2) rfl dX8_begin_12 fX8_18 (by assumption) rfl ?_
  refine aw_aload_n dX8_begin_15 rfl ?_
  refine aw_getr' (j := 3) dX8_begin_16 fX8_21 rfl (by assumption) rfl (by assumption) ?_
  refine aw_iconst dX8_begin_19 ?_
  refine aw_invS_n dX8_begin_20 sJ7_fill_53178 kX8_27 rfl (c_J7_fill (h := _) (b := a + 1) (z := 0) (n := 27) (by exact hk1) (by decide)) rfl rfl (by decide) (by decide) (by decide) (Nat.le_of_ble_eq_true rfl) ?_
  exact aw_return dX8_begin_23 rfl (Or.inl rfl) ⟨rfl, rfl⟩
theorem c_scopy {γ : GG} {h : AH} {a b : Nat} (hS : shS h a) (hB : shS h b) (hab : a + 2 ≤ b ∨ b + 2 ≤ a) : Call γ mX8_copyFrom 1 0 0 [vr (some a), vr (some b)] h (rN (hCopyS h a b)) := by
  obtain ⟨hk, hr, hk1⟩ := hS
  obtain ⟨hkb, hrb, hkb1⟩ := hB
  refine Call.of (ls := [(0, vr (some a)), (1, vr (some b))]) vX8_copyFrom.1 (Nat.le_of_ble_eq_true rfl) rfl ?_
  refine aw_aload_n dX8_copyFrom_0 rfl ?_
  refine aw_aload_n dX8_copyFrom_1 rfl ?_
  refine aw_geti' (j := 0) dX8_copyFrom_2 fX8_9 rfl (by assumption) rfl (by first | rfl) ?_
  refine aw_puti' (j := 0) rfl dX8_copyFrom_5 fX8_9 (by assumption) rfl ?_
  refine aw_aload_n dX8_copyFrom_8 rfl ?_
  refine aw_aload_n dX8_copyFrom_9 rfl ?_
  refine aw_geti' (j := 1) dX8_copyFrom_10 fX8_15 rfl (by assumption) rfl (by first | rfl) ?_
  refine aw_puti' (j := 1) rfl dX8_copyFrom_13 fX8_15 (by assumption) rfl ?_
  refine aw_aload_n dX8_copyFrom_16 rfl ?_
  refine aw_aload_n dX8_copyFrom_17 rfl ?_
  refine aw_geti' (j := 2) dX8_copyFrom_18 fX8_18 rfl (by assumption) rfl (by first | rfl) ?_
  refine aw_puti' (j := 2) rfl dX8_copyFrom_21 fX8_18 (by assumption) rfl ?_
  refine aw_aload_n dX8_copyFrom_24 rfl ?_
  refine aw_getr' (j := 3) dX8_copyFrom_25 fX8_21 rfl (by assumption) rfl (by assumption) ?_
  refine aw_iconst dX8_copyFrom_28 ?_
  refine aw_aload_n dX8_copyFrom_29 rfl ?_
  refine aw_getr' (j := 3) dX8_copyFrom_30 fX8_21 rfl (by assumption) rfl (by assumption) ?_
  refine aw_iconst dX8_copyFrom_33 ?_
  refine aw_bipush dX8_copyFrom_34 rfl ?_
  refine aw_copyI dX8_copyFrom_36 aX8_33 (by assumption) (by assumption) (by decide) (by decide) (by omega) (by decide) (Nat.le_of_ble_eq_true rfl) ?_
  exact aw_return dX8_copyFrom_39 rfl (Or.inl rfl) ⟨rfl, by unfold hCopyS; rw [gi_ne (Or.inl (by omega)), gi_ne (Or.inl (by omega)), gi_ne (Or.inl (by omega))]⟩
theorem c_isAny {γ : GG} {h : AH} {a : Nat} {s : TS} {x : Int} (hS : isS h a s) (hs : okS s) (hx : 0 ≤ x ∧ x ≤ 9) : Call γ mX8_isAny 0 0 0 [vr (some a), vi x] h (rV (vi (if s.1 = (x, 8) then 1 else 0)) h) := by
  obtain ⟨⟨hk, hr, hk1⟩, h0, h1, h2, h3⟩ := hS
  obtain ⟨⟨x1, t1⟩, ps⟩ := s
  obtain ⟨⟨b1, b2, b3, b4⟩, -⟩ := hs
  dsimp only at h0 h1 b1 b2 b3 b4
  refine Call.of (ls := [(0, vr (some a)), (1, vi x)]) vX8_isAny.1 (Nat.le_of_ble_eq_true rfl) rfl ?_
  refine aw_aload_n dX8_isAny_0 rfl ?_
  refine aw_geti' (j := 0) dX8_isAny_1 fX8_9 rfl (by assumption) rfl rfl ?_
  refine aw_iload_n dX8_isAny_4 rfl ?_
  refine aw_ic_ne (tgt := 21) dX8_isAny_5 rfl (by omega) (by omega) (fun c5 => ?_) (fun c5 => ?_)
  · refine aw_iconst dX8_isAny_21 ?_
    exact aw_zreturn dX8_isAny_22 rfl (by omega) (Or.inl rfl) ⟨by congr 3; first | (rw [if_pos (Prod.ext (by show x1 = x; omega) (by show t1 = 8; omega))]; done) | (rw [if_neg (fun z => by have := congrArg Prod.fst z; have := congrArg Prod.snd z; dsimp only at *; omega)]), rfl⟩
  · refine aw_aload_n dX8_isAny_8 rfl ?_
    refine aw_geti' (j := 1) dX8_isAny_9 fX8_15 rfl (by assumption) rfl rfl ?_
    refine aw_bipush dX8_isAny_12 rfl ?_
    refine aw_ic_ne (tgt := 21) dX8_isAny_14 rfl (by omega) (by omega) (fun c14 => ?_) (fun c14 => ?_)
    · refine aw_iconst dX8_isAny_21 ?_
      exact aw_zreturn dX8_isAny_22 rfl (by omega) (Or.inl rfl) ⟨by congr 3; first | (rw [if_pos (Prod.ext (by show x1 = x; omega) (by show t1 = 8; omega))]; done) | (rw [if_neg (fun z => by have := congrArg Prod.fst z; have := congrArg Prod.snd z; dsimp only at *; omega)]), rfl⟩
    · refine aw_iconst dX8_isAny_17 ?_
      refine aw_goto (tgt := 22) dX8_isAny_18 rfl ?_
      exact aw_zreturn dX8_isAny_22 rfl (by omega) (Or.inl rfl) ⟨by congr 3; first | (rw [if_pos (Prod.ext (by show x1 = x; omega) (by show t1 = 8; omega))]; done) | (rw [if_neg (fun z => by have := congrArg Prod.fst z; have := congrArg Prod.snd z; dsimp only at *; omega)]), rfl⟩
theorem c_isPlainAny {γ : GG} {h : AH} {a : Nat} {s : TS} {x : Int} (hS : isS h a s) (hs : okS s) (hx : 0 ≤ x ∧ x ≤ 9) : Call γ mX8_isPlainAny 1 0 0 [vr (some a), vi x] h (rV (vi (if s.1 = (x, 8) ∧ s.2.length = 0 then 1 else 0)) h) := by
  have hS0 := hS
  obtain ⟨⟨hk, hr, hk1⟩, h0, h1, h2, h3⟩ := hS
  have hps := hs.2.1
  by_cases q1 : s.1 = (x, 8)
  · have K := c_isAny (γ := γ) hS0 hs hx
    rw [if_pos q1] at K
    refine Call.of (ls := [(0, vr (some a)), (1, vi x)]) vX8_isPlainAny.1 (Nat.le_of_ble_eq_true rfl) rfl ?_
    refine aw_aload_n dX8_isPlainAny_0 rfl ?_
    refine aw_geti' (j := 2) dX8_isPlainAny_1 fX8_18 rfl (by assumption) rfl rfl ?_
    refine aw_if_ne (tgt := 19) dX8_isPlainAny_4 rfl (by omega) (fun c4 => ?_) (fun c4 => ?_)
    · refine aw_iconst dX8_isPlainAny_19 ?_
      exact aw_zreturn dX8_isPlainAny_20 rfl (by omega) (Or.inl rfl) ⟨by congr 3; first | (rw [if_pos ⟨q1, by omega⟩]; done) | (rw [if_neg (fun z => by have := z.2; omega)]), rfl⟩
    · refine aw_aload_n dX8_isPlainAny_7 rfl ?_
      refine aw_iload_n dX8_isPlainAny_8 rfl ?_
      refine aw_invV_r dX8_isPlainAny_9 vX8_isAny kX8_39 rfl (K) ⟨_, (by assumption), _, _, rfl⟩ rfl rfl (by decide) (by decide) (by decide) (Nat.le_of_ble_eq_true rfl) ?_
      refine aw_if_eq (tgt := 19) dX8_isPlainAny_12 rfl (by omega) (fun c12 => ?_) (fun c12 => ?_)
      · exact absurd c12 (by omega)
      · refine aw_iconst dX8_isPlainAny_15 ?_
        refine aw_goto (tgt := 20) dX8_isPlainAny_16 rfl ?_
        exact aw_zreturn dX8_isPlainAny_20 rfl (by omega) (Or.inl rfl) ⟨by congr 3; first | (rw [if_pos ⟨q1, by omega⟩]; done) | (rw [if_neg (fun z => by have := z.2; omega)]), rfl⟩
  · have K := c_isAny (γ := γ) hS0 hs hx
    rw [if_neg q1] at K
    refine Call.of (ls := [(0, vr (some a)), (1, vi x)]) vX8_isPlainAny.1 (Nat.le_of_ble_eq_true rfl) rfl ?_
    refine aw_aload_n dX8_isPlainAny_0 rfl ?_
    refine aw_geti' (j := 2) dX8_isPlainAny_1 fX8_18 rfl (by assumption) rfl rfl ?_
    refine aw_if_ne (tgt := 19) dX8_isPlainAny_4 rfl (by omega) (fun c4 => ?_) (fun c4 => ?_)
    · refine aw_iconst dX8_isPlainAny_19 ?_
      exact aw_zreturn dX8_isPlainAny_20 rfl (by omega) (Or.inl rfl) ⟨by congr 3; rw [if_neg (fun z => q1 z.1)], rfl⟩
    · refine aw_aload_n dX8_isPlainAny_7 rfl ?_
      refine aw_iload_n dX8_isPlainAny_8 rfl ?_
      refine aw_invV_r dX8_isPlainAny_9 vX8_isAny kX8_39 rfl (K) ⟨_, (by assumption), _, _, rfl⟩ rfl rfl (by decide) (by decide) (by decide) (Nat.le_of_ble_eq_true rfl) ?_
      refine aw_if_eq (tgt := 19) dX8_isPlainAny_12 rfl (by omega) (fun c12 => ?_) (fun c12 => ?_)
      · refine aw_iconst dX8_isPlainAny_19 ?_
        exact aw_zreturn dX8_isPlainAny_20 rfl (by omega) (Or.inl rfl) ⟨by congr 3; rw [if_neg (fun z => q1 z.1)], rfl⟩
      · exact absurd c12 (by omega)
theorem slot_pos {ps : List TP} (h : ∀ p ∈ ps, okP p) (k : Nat) : (slotv ps k % 8 = 1 ∨ slotv ps k % 8 = 2) ↔ ∃ c, cAt ps k = some c ∧ isPosC c = true := by
  rw [slotv_at]
  cases hc : cAt ps k with
  | none => simp
  | some c => simp [pk_pos (cAt_ok h hc).1]
theorem pos_iff {s : TS} (hs : okS s) : isPosS s = true ↔ ∃ k, k < 27 ∧ (slotv s.2 k % 8 = 1 ∨ slotv s.2 k % 8 = 2) := by
  constructor
  · intro h
    simp only [isPosS, isPosP, List.any_eq_true] at h
    obtain ⟨p, hp, a, ha, c, hc, hpos⟩ := h
    obtain ⟨i, hi⟩ := List.getElem?_of_mem hp
    obtain ⟨j, hj⟩ := List.getElem?_of_mem ha
    obtain ⟨k, hk⟩ := List.getElem?_of_mem hc
    have l1 := (List.getElem?_eq_some_iff.mp hi).1
    have l2 := (List.getElem?_eq_some_iff.mp hj).1
    have l3 := (List.getElem?_eq_some_iff.mp hk).1
    have o1 := hs.2.1
    have o2 := (hs.2.2 p hp).2.1
    have o3 := ((hs.2.2 p hp).2.2 a ha).2.1
    exact ⟨9 * i + 3 * j + k, by omega, (slot_pos hs.2.2 _).mpr ⟨c, cAt_of hi hj hk (by omega) (by omega), hpos⟩⟩
  · rintro ⟨k, hk, h⟩
    obtain ⟨c, hc, hpos⟩ := (slot_pos hs.2.2 k).mp h
    obtain ⟨-, p, hp, a, ha, hca⟩ := cAt_ok hs.2.2 hc
    simp only [isPosS, isPosP, List.any_eq_true]
    exact ⟨p, hp, a, ha, c, hca, hpos⟩
theorem l_spos {γ : GG} {h : AH} {a : Nat} {s : TS} (hS : isS h a s) (hs : okS s) : ∀ (m k : Nat), k + m = 27 → (∀ j, j < k → ¬ (slotv s.2 j % 8 = 1 ∨ slotv s.2 j % 8 = 2)) → AW γ mX8_isPositional 1 0 0 2 [(0, vr (some a)), (1, vi (k : Int))] [] h (rV (vi (if isPosS s = true then 1 else 0)) h) := by
  obtain ⟨⟨hk, hr, hk1⟩, h0, h1, h2, h3⟩ := hS
  intro m
  induction m with
  | zero =>
    intro k hkm hj
    have e : ¬ isPosS s = true := fun z => by obtain ⟨j, j1, j2⟩ := (pos_iff hs).mp z; exact hj j (by omega) j2
    rw [if_neg e]
    refine aw_iload_n dX8_isPositional_2 rfl ?_
    refine aw_bipush dX8_isPositional_3 rfl ?_
    refine aw_ic_ge (tgt := 28) dX8_isPositional_5 rfl (by omega) (by omega) (fun c5 => ?_) (fun c5 => ?_)
    · refine aw_iconst dX8_isPositional_28 ?_
      exact aw_zreturn dX8_isPositional_29 rfl (by omega) (Or.inl rfl) ⟨rfl, rfl⟩
    · exact absurd c5 (by omega)
  | succ m ih =>
    intro k hkm hj
    have hb := slotv_bd hs.2.2 k
    by_cases hp : slotv s.2 k % 8 = 1 ∨ slotv s.2 k % 8 = 2
    · have K := c_isPositional (γ := γ) (h := h) (c := slotv s.2 k) hb
      rw [if_pos hp] at K
      rw [if_pos ((pos_iff hs).mpr ⟨k, by omega, hp⟩)]
      refine aw_iload_n dX8_isPositional_2 rfl ?_
      refine aw_bipush dX8_isPositional_3 rfl ?_
      refine aw_ic_ge (tgt := 28) dX8_isPositional_5 rfl (by omega) (by omega) (fun c5 => ?_) (fun c5 => ?_)
      · exact absurd c5 (by omega)
      · refine aw_aload_n dX8_isPositional_8 rfl ?_
        refine aw_getr' (j := 3) dX8_isPositional_9 fX8_21 rfl (by assumption) rfl (by assumption) ?_
        refine aw_iload_n dX8_isPositional_12 rfl ?_
        refine aw_iald' dX8_isPositional_13 (by assumption) (by omega) (by first | decide | omega) (h3 k (by omega)) ?_
        refine aw_invS_r dX8_isPositional_14 sX0_isPositional kX8_43 rfl (K) rfl rfl (by decide) (by decide) (by decide) (Nat.le_of_ble_eq_true rfl) ?_
        refine aw_if_eq (tgt := 22) dX8_isPositional_17 rfl (by omega) (fun c17 => ?_) (fun c17 => ?_)
        · exact absurd c17 (by omega)
        · refine aw_iconst dX8_isPositional_20 ?_
          exact aw_zreturn dX8_isPositional_21 rfl (by omega) (Or.inl rfl) ⟨rfl, rfl⟩
    · have K := c_isPositional (γ := γ) (h := h) (c := slotv s.2 k) hb
      rw [if_neg hp] at K
      have ih' := ih (k + 1) (by omega) (fun j hj2 => by
        by_cases q : j = k
        · rw [q]; exact hp
        · exact hj j (by omega))
      refine aw_iload_n dX8_isPositional_2 rfl ?_
      refine aw_bipush dX8_isPositional_3 rfl ?_
      refine aw_ic_ge (tgt := 28) dX8_isPositional_5 rfl (by omega) (by omega) (fun c5 => ?_) (fun c5 => ?_)
      · exact absurd c5 (by omega)
      · refine aw_aload_n dX8_isPositional_8 rfl ?_
        refine aw_getr' (j := 3) dX8_isPositional_9 fX8_21 rfl (by assumption) rfl (by assumption) ?_
        refine aw_iload_n dX8_isPositional_12 rfl ?_
        refine aw_iald' dX8_isPositional_13 (by assumption) (by omega) (by first | decide | omega) (h3 k (by omega)) ?_
        refine aw_invS_r dX8_isPositional_14 sX0_isPositional kX8_43 rfl (K) rfl rfl (by decide) (by decide) (by decide) (Nat.le_of_ble_eq_true rfl) ?_
        refine aw_if_eq (tgt := 22) dX8_isPositional_17 rfl (by omega) (fun c17 => ?_) (fun c17 => ?_)
        · refine aw_iinc (k9 := 1) (ls1 := [(1, _), (0, _)]) dX8_isPositional_22 rfl (by decide) rfl ?_
          refine aw_goto (tgt := 2) dX8_isPositional_25 rfl ?_
          refine aw_sub [1, 0] rfl ?_
          exact ih'
        · exact absurd c17 (by omega)
theorem c_sisPos {γ : GG} {h : AH} {a : Nat} {s : TS} (hS : isS h a s) (hs : okS s) : Call γ mX8_isPositional 1 0 0 [vr (some a)] h (rV (vi (if isPosS s = true then 1 else 0)) h) := by
  refine Call.of (ls := [(0, vr (some a))]) vX8_isPositional.1 (Nat.le_of_ble_eq_true rfl) rfl ?_
  refine aw_iconst dX8_isPositional_0 ?_
  refine aw_istore_n (ls1 := [(1, _), (0, _)]) dX8_isPositional_1 (by decide) rfl ?_
  refine aw_sub [1, 0] rfl ?_
  exact l_spos hS hs 27 0 (by omega) (fun j hj => by omega)
