/-! ===== the reading machine: what both sides do with a text, sign by sign ===== -/
/-- state, axis; done paths; the path at hand: absolute, done steps; the step at hand; done alternatives, done conditions, the condition at hand -/
abbrev PS : Type := Nat × Int × TQ × (Bool × List TS) × TS × (TP × TA × TC)
def s0 : TS := ((0, 0), [])
def c0 : TC := (false, 0, 0, [])
def k0 : TP × TA × TC := ([], [], c0)
def a_tst (t ax : Int) (Q : TQ) (T : Bool × List TS) : Option PS := if t = -1 then none else some (4, 0, Q, T, ((ax, t), []), k0)
def a_stp (ch : Nat) (Q : TQ) (T : Bool × List TS) : Option PS := if T.2.length = 8 then none else if axN ch = 0 then a_tst (teN ch) 0 Q T else some (3, axN ch, Q, T, s0, k0)
def a_dig (ch lo : Nat) (kd9 : Int) (ng : Bool) (Q : TQ) (T : Bool × List TS) (s : TS) (pr : TP) (al : TA) : Option PS := if ch < lo ∨ 57 < ch then none else some (11, 0, Q, T, s, pr, al, ng, kd9, (ch : Int) - 48, [])
def a_atm (ch : Nat) (ng : Bool) (Q : TQ) (T : Bool × List TS) (s : TS) (pr : TP) (al : TA) : Option PS :=
  if ch = 36 then some (11, 0, Q, T, s, pr, al, ng, 1, 0, []) else if ch = 61 then some (7, 0, Q, T, s, pr, al, ng, 0, 0, []) else if ch = 63 then some (8, 0, Q, T, s, pr, al, ng, 3, 0, []) else a_dig ch 49 0 ng Q T s pr al
def a_stt (t ax : Int) (Q : TQ) (T : Bool × List TS) (s : TS) (pr : TP) (al : TA) (c : TC) : Option PS := if t = -1 then none else some (10, 0, Q, T, s, pr, al, c.1, 3, 0, c.2.2.2 ++ [(ax, t)])
def a_cend (ch : Nat) (Q : TQ) (T : Bool × List TS) (s : TS) (pr : TP) (al : TA) (c : TC) : Option PS :=
  if ch = 93 then some (4, 0, Q, T, (s.1, s.2 ++ [pr ++ [al ++ [c]]]), k0) else if ch = 44 ∧ al.length < 2 then some (5, 0, Q, T, s, pr, al ++ [c], c0) else if ch = 43 ∧ pr.length < 2 then some (5, 0, Q, T, s, pr ++ [al ++ [c]], [], c0) else none
def acc (ch : Nat) : PS → Option PS
  | (st, ax, Q, T, s, pr, al, c) => match st with
    | 0 => if ch = 47 then some (1, 0, Q, (true, T.2), s0, k0) else a_stp ch Q T
    | 1 => if ch = 47 then (if T.2.length = 8 then none else some (2, 0, Q, (T.1, T.2 ++ [((3, 8), [])]), s0, k0)) else a_stp ch Q T
    | 2 => a_stp ch Q T
    | 3 => a_tst (teN ch) ax Q T
    | 4 => if ch = 47 then some (1, 0, Q, (T.1, T.2 ++ [s]), s0, k0) else if ch = 91 ∧ s.2.length < 3 then some (5, 0, Q, T, s, k0) else if ch = 124 ∧ Q.length < 3 then some (0, 0, Q ++ [(T.1, T.2 ++ [s])], (false, []), s0, k0) else none
    | 5 => if ch = 45 then some (6, 0, Q, T, s, pr, al, true, 0, 0, []) else a_atm ch false Q T s pr al
    | 6 => a_atm ch c.1 Q T s pr al
    | 7 => a_dig ch 48 2 c.1 Q T s pr al
    | 8 => if axN ch = 0 then a_stt (teN ch) 0 Q T s pr al c else some (9, axN ch, Q, T, s, pr, al, c)
    | 9 => a_stt (teN ch) ax Q T s pr al c
    | 10 => if ch = 47 then (if c.2.2.2.length = 3 then none else some (8, 0, Q, T, s, pr, al, c)) else a_cend ch Q T s pr al c
    | _ => a_cend ch Q T s pr al c
def z0 : PS := (0, 0, [], (false, []), s0, k0)
/-- the conditions of an alternative that is at hand, if there are some -/
def al1 (al : TA) : TP := if al = [] then [] else [al]
/-- the steps of the path at hand, as far as they are read -/
def zP : PS → List TS
  | (st, _, _, T, s, pr, al, c) => if st < 4 then T.2 else if st = 4 then T.2 ++ [s] else if st < 8 then T.2 ++ [(s.1, s.2 ++ [pr ++ al1 al])] else T.2 ++ [(s.1, s.2 ++ [pr ++ [al ++ [c]]])]
def okH (st : Nat) (c : TC) : Prop := if st = 8 ∨ st = 9 then c.2.1 = 3 ∧ c.2.2.1 = 0 ∧ c.2.2.2.length ≤ 2 ∧ ∀ x ∈ c.2.2.2, okT x else if 10 ≤ st then okC c ∧ (st = 10 → c.2.1 = 3) else True
def okK (st : Nat) (s : TS) (pr : TP) (al : TA) (c : TC) : Prop := s.2.length < 3 ∧ pr.length ≤ 2 ∧ (∀ a ∈ pr, okA a) ∧ al.length ≤ 2 ∧ (∀ c ∈ al, okC c) ∧ okH st c
def okZ : PS → Prop
  | (st, ax, Q, T, s, pr, al, c) => st ≤ 11 ∧ (0 ≤ ax ∧ ax ≤ 9) ∧ Q.length ≤ 3 ∧ (∀ t ∈ Q, okW t) ∧ T.2.length ≤ 8 ∧ (∀ x ∈ T.2, okS x) ∧ (st = 3 → T.2.length < 8) ∧ (4 ≤ st → T.2.length < 8 ∧ okS s) ∧ (5 ≤ st → okK st s pr al c)
theorem axN_bd : ∀ c : Nat, c < 128 → 0 ≤ axN c ∧ axN c ≤ 9 := by decide
theorem teN_bd {c : Nat} : teN c = -1 ∨ (0 ≤ teN c ∧ teN c ≤ 8) := by
  unfold teN
  split
  · right; decide
  · split
    · right; omega
    · left; rfl
theorem okS_s0 : okS s0 := ⟨by unfold okT s0; decide, by decide, fun p hp => absurd hp (by simp [s0])⟩
theorem okZ_z0 : okZ z0 := by
  refine ⟨by decide, by decide, by decide, fun t ht => absurd ht (by simp), by decide, fun t ht => absurd ht (by simp), fun h => absurd h (by decide), fun h => absurd h (by decide), fun h => absurd h (by decide)⟩
theorem mem_snoc {α : Type} {P : α → Prop} {l : List α} {x : α} (h : ∀ y ∈ l, P y) (hx : P x) : ∀ y ∈ l ++ [x], P y := by
  intro y hy
  rcases List.mem_append.mp hy with q | q
  · exact h y q
  · rw [List.mem_singleton] at q; subst q; exact hx
theorem okZ_tst {t ax : Int} {Q : TQ} {T : Bool × List TS} {z : PS} (ha : 0 ≤ ax ∧ ax ≤ 9) (ht : t = -1 ∨ (0 ≤ t ∧ t ≤ 8)) (h1 : Q.length ≤ 3) (h2 : ∀ t ∈ Q, okW t) (h3 : T.2.length < 8) (h4 : ∀ x ∈ T.2, okS x) (h : a_tst t ax Q T = some z) : okZ z := by
  unfold a_tst at h
  split at h
  · cases h
  · cases h
    rename_i hn
    refine ⟨by omega, by omega, h1, h2, by omega, h4, fun q => absurd q (by decide), fun _ => ⟨h3, ⟨ha.1, ha.2, by dsimp only; omega, by dsimp only; omega⟩, by simp, fun p hp => absurd hp (by simp)⟩, fun q => absurd q (by decide)⟩
theorem okZ_stp {ch : Nat} {Q : TQ} {T : Bool × List TS} {z : PS} (hc : ch < 128) (h1 : Q.length ≤ 3) (h2 : ∀ t ∈ Q, okW t) (h3 : T.2.length ≤ 8) (h4 : ∀ x ∈ T.2, okS x) (h : a_stp ch Q T = some z) : okZ z := by
  unfold a_stp at h
  split at h
  · cases h
  · split at h
    · exact okZ_tst ⟨by decide, by decide⟩ teN_bd h1 h2 (by omega) h4 h
    · cases h
      have := axN_bd ch hc
      exact ⟨by omega, this, h1, h2, h3, h4, fun _ => by omega, fun q => absurd q (by decide), fun q => absurd q (by decide)⟩
theorem okC_dig {ng : Bool} {k d : Int} (h : (k = 0 ∧ 1 ≤ d) ∨ (k = 2 ∧ 0 ≤ d)) (hd : d ≤ 9) : okC (ng, k, d, []) := by
  unfold okC
  dsimp only
  rcases h with ⟨rfl, h⟩ | ⟨rfl, h⟩
  · exact Or.inl ⟨rfl, h, hd, rfl⟩
  · exact Or.inr (Or.inr (Or.inl ⟨rfl, h, hd, rfl⟩))
theorem okZ_dig {ch lo : Nat} {k : Int} {ng : Bool} {Q : TQ} {T : Bool × List TS} {s : TS} {pr : TP} {al : TA} {c : TC} {st : Nat} {ax : Int} {z : PS} (hz : okZ (st, ax, Q, T, s, pr, al, c)) (h5 : 5 ≤ st) (hk : (k = 0 ∧ lo = 49) ∨ (k = 2 ∧ lo = 48)) (h : a_dig ch lo k ng Q T s pr al = some z) : okZ z := by
  obtain ⟨z1, z2, z3, z4, z5, z6, z7, z8, z9⟩ := hz
  obtain ⟨y1, y2, y3, y4, y5, y6⟩ := z9 h5
  unfold a_dig at h
  split at h
  · cases h
  · cases h
    refine ⟨by omega, by omega, z3, z4, z5, z6, fun q => absurd q (by decide), fun _ => z8 (by omega), fun _ => ⟨y1, y2, y3, y4, y5, ?_⟩⟩
    unfold okH
    rw [if_neg (by omega), if_pos (by omega)]
    exact ⟨okC_dig (by omega) (by omega), fun q => absurd q (by decide)⟩
theorem okZ_atm {ch : Nat} {ng : Bool} {Q : TQ} {T : Bool × List TS} {s : TS} {pr : TP} {al : TA} {c : TC} {st : Nat} {ax : Int} {z : PS} (hz : okZ (st, ax, Q, T, s, pr, al, c)) (h5 : 5 ≤ st) (h : a_atm ch ng Q T s pr al = some z) : okZ z := by
  have hz' := hz
  obtain ⟨z1, z2, z3, z4, z5, z6, z7, z8, z9⟩ := hz
  obtain ⟨y1, y2, y3, y4, y5, y6⟩ := z9 h5
  unfold a_atm at h
  split at h
  · cases h
    refine ⟨by omega, by omega, z3, z4, z5, z6, fun q => absurd q (by decide), fun _ => z8 (by omega), fun _ => ⟨y1, y2, y3, y4, y5, ?_⟩⟩
    unfold okH
    rw [if_neg (by omega), if_pos (by omega)]
    exact ⟨Or.inr (Or.inl ⟨rfl, rfl, rfl⟩), fun q => absurd q (by decide)⟩
  · split at h
    · cases h
      refine ⟨by omega, by omega, z3, z4, z5, z6, fun q => absurd q (by decide), fun _ => z8 (by omega), fun _ => ⟨y1, y2, y3, y4, y5, ?_⟩⟩
      unfold okH
      rw [if_neg (by omega), if_neg (by omega)]
      trivial
    · split at h
      · cases h
        refine ⟨by omega, by omega, z3, z4, z5, z6, fun q => absurd q (by decide), fun _ => z8 (by omega), fun _ => ⟨y1, y2, y3, y4, y5, ?_⟩⟩
        unfold okH
        rw [if_pos (by omega)]
        exact ⟨rfl, rfl, by simp, fun x hx => absurd hx (by simp)⟩
      · exact okZ_dig hz' h5 (Or.inl ⟨rfl, rfl⟩) h
theorem okZ_stt {t ax9 : Int} {Q : TQ} {T : Bool × List TS} {s : TS} {pr : TP} {al : TA} {c : TC} {st : Nat} {ax : Int} {z : PS} (hz : okZ (st, ax, Q, T, s, pr, al, c)) (h5 : st = 8 ∨ st = 9) (ha : 0 ≤ ax9 ∧ ax9 ≤ 9) (ht : t = -1 ∨ (0 ≤ t ∧ t ≤ 8)) (h : a_stt t ax9 Q T s pr al c = some z) : okZ z := by
  obtain ⟨z1, z2, z3, z4, z5, z6, z7, z8, z9⟩ := hz
  obtain ⟨y1, y2, y3, y4, y5, y6⟩ := z9 (by omega)
  unfold okH at y6
  rw [if_pos h5] at y6
  obtain ⟨x1, x2, x3, x4⟩ := y6
  unfold a_stt at h
  split at h
  · cases h
  · cases h
    refine ⟨by omega, by omega, z3, z4, z5, z6, fun q => absurd q (by decide), fun _ => z8 (by omega), fun _ => ⟨y1, y2, y3, y4, y5, ?_⟩⟩
    unfold okH
    rw [if_neg (by omega), if_pos (by omega)]
    refine ⟨Or.inr (Or.inr (Or.inr ⟨rfl, rfl, by simp, ?_, mem_snoc x4 ⟨ha.1, ha.2, by dsimp only; omega, by dsimp only; omega⟩⟩)), fun _ => rfl⟩
    simp only [List.length_append, List.length_singleton]
    omega
theorem okZ_cend {ch : Nat} {Q : TQ} {T : Bool × List TS} {s : TS} {pr : TP} {al : TA} {c : TC} {st : Nat} {ax : Int} {z : PS} (hz : okZ (st, ax, Q, T, s, pr, al, c)) (h5 : 10 ≤ st) (h : a_cend ch Q T s pr al c = some z) : okZ z := by
  obtain ⟨z1, z2, z3, z4, z5, z6, z7, z8, z9⟩ := hz
  obtain ⟨y1, y2, y3, y4, y5, y6⟩ := z9 (by omega)
  obtain ⟨x1, x2, x3, x4⟩ := z8 (by omega)
  unfold okH at y6
  rw [if_neg (by omega), if_pos h5] at y6
  have oa : okA (al ++ [c]) := ⟨by simp, by simp; omega, mem_snoc y5 y6.1⟩
  unfold a_cend at h
  split at h
  · cases h
    refine ⟨by omega, by omega, z3, z4, z5, z6, fun q => absurd q (by decide), fun _ => ⟨x1, x2, by simp; omega, mem_snoc x4 ⟨by simp, by simp; omega, mem_snoc y3 oa⟩⟩, fun q => absurd q (by decide)⟩
  · split at h
    · cases h
      refine ⟨by omega, by omega, z3, z4, z5, z6, fun q => absurd q (by decide), fun _ => ⟨x1, x2, x3, x4⟩, fun _ => ⟨y1, y2, y3, by simp; omega, mem_snoc y5 y6.1, ?_⟩⟩
      unfold okH
      rw [if_neg (by omega), if_neg (by omega)]
      trivial
    · split at h
      · cases h
        refine ⟨by omega, by omega, z3, z4, z5, z6, fun q => absurd q (by decide), fun _ => ⟨x1, x2, x3, x4⟩, fun _ => ⟨y1, by simp; omega, mem_snoc y3 oa, by simp, fun c hc => absurd hc (by simp), ?_⟩⟩
        unfold okH
        rw [if_neg (by omega), if_neg (by omega)]
        trivial
      · cases h
theorem okZ_acc {ch : Nat} {z z' : PS} (hc : ch < 128) (hz : okZ z) (h : acc ch z = some z') : okZ z' := by
  obtain ⟨st, ax, Q, T, s, pr, al, c⟩ := z
  have hz' := hz
  obtain ⟨z1, z2, z3, z4, z5, z6, z7, z8, z9⟩ := hz
  match st, z1 with
  | 0, _ =>
    simp only [acc] at h
    split at h
    · cases h
      exact ⟨by omega, by omega, z3, z4, z5, z6, fun q => absurd q (by decide), fun q => absurd q (by decide), fun q => absurd q (by decide)⟩
    · exact okZ_stp hc z3 z4 z5 z6 h
  | 1, _ =>
    simp only [acc] at h
    split at h
    · split at h
      · cases h
      · cases h
        exact ⟨by omega, by omega, z3, z4, by simp; omega, mem_snoc z6 ⟨by unfold okT; decide, by decide, fun p hp => absurd hp (by simp)⟩, fun q => absurd q (by decide), fun q => absurd q (by decide), fun q => absurd q (by decide)⟩
    · exact okZ_stp hc z3 z4 z5 z6 h
  | 2, _ => exact okZ_stp hc z3 z4 z5 z6 h
  | 3, _ => exact okZ_tst z2 teN_bd z3 z4 (z7 rfl) z6 h
  | 4, _ =>
    obtain ⟨x1, x2⟩ := z8 (by omega)
    simp only [acc] at h
    split at h
    · cases h
      exact ⟨by omega, by omega, z3, z4, by simp; omega, mem_snoc z6 x2, fun q => absurd q (by decide), fun q => absurd q (by decide), fun q => absurd q (by decide)⟩
    · split at h
      · cases h
        refine ⟨by omega, by omega, z3, z4, z5, z6, fun q => absurd q (by decide), fun _ => ⟨x1, x2⟩, fun _ => ⟨by omega, by simp [k0], fun a ha => absurd ha (by simp [k0]), by simp [k0], fun a ha => absurd ha (by simp [k0]), ?_⟩⟩
        unfold okH
        rw [if_neg (by omega), if_neg (by omega)]
        trivial
      · split at h
        · cases h
          exact ⟨by omega, by omega, by simp; omega, mem_snoc z4 ⟨by simp, by simp; omega, mem_snoc z6 x2⟩, by simp, fun x hx => absurd hx (by simp), fun q => absurd q (by decide), fun q => absurd q (by decide), fun q => absurd q (by decide)⟩
        · cases h
  | 5, _ =>
    simp only [acc] at h
    split at h
    · cases h
      obtain ⟨y1, y2, y3, y4, y5, y6⟩ := z9 (by omega)
      refine ⟨by omega, by omega, z3, z4, z5, z6, fun q => absurd q (by decide), fun _ => z8 (by omega), fun _ => ⟨y1, y2, y3, y4, y5, ?_⟩⟩
      unfold okH
      rw [if_neg (by omega), if_neg (by omega)]
      trivial
    · exact okZ_atm hz' (by omega) h
  | 6, _ => exact okZ_atm hz' (by omega) h
  | 7, _ => exact okZ_dig hz' (by omega) (Or.inr ⟨rfl, rfl⟩) h
  | 8, _ =>
    simp only [acc] at h
    split at h
    · exact okZ_stt hz' (Or.inl rfl) ⟨by decide, by decide⟩ teN_bd h
    · cases h
      obtain ⟨y1, y2, y3, y4, y5, y6⟩ := z9 (by omega)
      exact ⟨by omega, axN_bd ch hc, z3, z4, z5, z6, fun q => absurd q (by decide), fun _ => z8 (by omega), fun _ => ⟨y1, y2, y3, y4, y5, y6⟩⟩
  | 9, _ => exact okZ_stt hz' (Or.inr rfl) z2 teN_bd h
  | 10, _ =>
    simp only [acc] at h
    split at h
    · split at h
      · cases h
      · cases h
        obtain ⟨y1, y2, y3, y4, y5, y6⟩ := z9 (by omega)
        unfold okH at y6
        rw [if_neg (by omega), if_pos (by omega)] at y6
        refine ⟨by omega, by omega, z3, z4, z5, z6, fun q => absurd q (by decide), fun _ => z8 (by omega), fun _ => ⟨y1, y2, y3, y4, y5, ?_⟩⟩
        unfold okH
        rw [if_pos (by omega)]
        obtain ⟨w1, w2⟩ := y6
        have w3 := w2 rfl
        rcases w1 with w1 | w1 | w1 | w1
        · omega
        · omega
        · omega
        · exact ⟨w3, w1.2.1, by omega, w1.2.2.2.2⟩
    · exact okZ_cend hz' (by omega) h
  | 11, _ => exact okZ_cend hz' (by omega) h
  | n + 12, q => exact absurd q (by omega)
/-! slots of what is read -/
theorem cAt_put {P0 : List TP} {pr : TP} {al : TA} {c : TC} (h1 : pr.length ≤ 2) (h2 : al.length ≤ 2) (k : Nat) : cAt (P0 ++ [pr ++ [al ++ [c]]]) k = if k = 9 * P0.length + 3 * pr.length + al.length then some c else cAt (P0 ++ [pr ++ al1 al]) k := by
  unfold cAt
  rcases Nat.lt_trichotomy (k / 9) P0.length with h | h | h
  · rw [List.getElem?_append_left h, List.getElem?_append_left h, if_neg (by omega)]
  · rw [h, List.getElem?_concat_length, List.getElem?_concat_length]
    simp only [Option.bind_some]
    rcases Nat.lt_trichotomy (k % 9 / 3) pr.length with g | g | g
    · rw [List.getElem?_append_left g, List.getElem?_append_left g, if_neg (by omega)]
    · rw [g, List.getElem?_concat_length]
      simp only [Option.bind_some]
      have e : (pr ++ al1 al)[pr.length]?.bind (fun a => a[k % 3]?) = al[k % 3]? := by
        unfold al1
        split
        · next q => subst q; simp
        · simp
      rw [e]
      rcases Nat.lt_trichotomy (k % 3) al.length with f | f | f
      · rw [List.getElem?_append_left f, if_neg (by omega)]
      · rw [f, List.getElem?_concat_length, if_pos (by omega)]
      · rw [List.getElem?_eq_none (by simp; omega), List.getElem?_eq_none (by omega), if_neg (by omega)]
    · rw [List.getElem?_eq_none (by simp; omega), if_neg (by omega), List.getElem?_eq_none (by unfold al1; split <;> simp <;> omega)]
  · rw [List.getElem?_eq_none (by simp; omega), List.getElem?_eq_none (by simp; omega), if_neg (by omega)]
theorem cAt_open (P0 : List TP) (k : Nat) : cAt (P0 ++ [[]]) k = cAt P0 k := by
  unfold cAt
  rcases Nat.lt_trichotomy (k / 9) P0.length with h | h | h
  · rw [List.getElem?_append_left h]
  · rw [h, List.getElem?_concat_length, List.getElem?_eq_none (Nat.le_refl _)]
    simp
  · rw [List.getElem?_eq_none (by simp; omega), List.getElem?_eq_none (by omega)]
