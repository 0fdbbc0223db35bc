/-! ===== each use of a rule takes something away ===== -/
theorem sum_erase {α : Type} (f : α → Nat) : ∀ {l : List α} {i : Nat} {x : α}, l[i]? = some x → ((l.eraseIdx i).map f).sum + f x = (l.map f).sum := by
  intro l
  induction l with
  | nil => intro i x h; simp at h
  | cons b r ih =>
    intro i x h
    cases i with
    | zero => simp only [List.getElem?_cons_zero, Option.some.injEq] at h; subst h; simp; omega
    | succ i => have := ih (i := i) (x := x) (by simpa using h); simp; omega
theorem sum_set {α : Type} (f : α → Nat) : ∀ {l : List α} {i : Nat} {x y : α}, l[i]? = some x → ((l.set i y).map f).sum + f x = (l.map f).sum + f y := by
  intro l
  induction l with
  | nil => intro i x y h; simp at h
  | cons b r ih =>
    intro i x y h
    cases i with
    | zero => simp only [List.getElem?_cons_zero, Option.some.injEq] at h; subst h; simp; omega
    | succ i =>
      have := ih (i := i) (x := x) (y := y) (by simpa using h)
      simp only [List.set_cons_succ, List.map_cons, List.sum_cons]
      omega
theorem fm_inv {α : Type} {f : α → Option α} : ∀ {l l' : List α}, fm f l = some l' → ∃ (i : Nat) (x y : α), l[i]? = some x ∧ f x = some y ∧ l' = l.set i y := by
  intro l
  induction l with
  | nil => intro l' h; cases h
  | cons b r ih =>
    intro l' h
    simp only [fm] at h
    cases hb : f b with
    | some y =>
      rw [hb] at h
      exact ⟨0, b, y, rfl, hb, (Option.some.inj h).symm⟩
    | none =>
      rw [hb] at h
      obtain ⟨l1, h1, h2⟩ := Option.map_eq_some_iff.mp h
      obtain ⟨i, x, y, e1, e2, e3⟩ := ih h1
      exact ⟨i + 1, x, y, by simpa using e1, e2, by rw [← h2, e3]; rfl⟩
theorem fr_inv {α : Type} {f : α → Bool} : ∀ {l l' : List α}, fr f l = some l' → ∃ (i : Nat) (x : α), l[i]? = some x ∧ f x = true ∧ l' = l.eraseIdx i := by
  intro l
  induction l with
  | nil => intro l' h; cases h
  | cons b r ih =>
    intro l' h
    simp only [fr] at h
    cases hb : f b with
    | true =>
      rw [hb, if_pos rfl] at h
      exact ⟨0, b, rfl, hb, (Option.some.inj h).symm⟩
    | false =>
      rw [hb, if_neg (by decide)] at h
      obtain ⟨l1, h1, h2⟩ := Option.map_eq_some_iff.mp h
      obtain ⟨i, x, e1, e2, e3⟩ := ih h1
      exact ⟨i + 1, x, by simpa using e1, e2, by rw [← h2, e3]; rfl⟩
theorem fn2_inv {α : Type} {g : α → α → Bool} : ∀ {l l' : List α}, fn2 g l = some l' → ∃ (i : Nat) (x : α), l[i + 1]? = some x ∧ l' = l.eraseIdx (i + 1) := by
  intro l
  induction l with
  | nil => intro l' h; cases h
  | cons b r ih =>
    intro l' h
    cases r with
    | nil => cases h
    | cons d r =>
      simp only [fn2] at h
      cases hb : g b d with
      | true =>
        rw [hb, if_pos rfl] at h
        exact ⟨0, d, rfl, (Option.some.inj h).symm⟩
      | false =>
        rw [hb, if_neg (by decide)] at h
        obtain ⟨l1, h1, h2⟩ := Option.map_eq_some_iff.mp h
        obtain ⟨i, x, e1, e3⟩ := ih h1
        exact ⟨i + 1, x, by simpa using e1, by rw [← h2, e3]; rfl⟩
theorem fp_inv {α : Type} {f : α → α → Option α} : ∀ {l l' : List α}, fp f l = some l' → ∃ (i : Nat) (s t x : α), l[i]? = some s ∧ l[i + 1]? = some t ∧ f s t = some x ∧ l' = (l.set i x).eraseIdx (i + 1) := by
  intro l
  induction l with
  | nil => intro l' h; cases h
  | cons b r ih =>
    intro l' h
    cases r with
    | nil => cases h
    | cons d r =>
      simp only [fp] at h
      cases hb : f b d with
      | some x =>
        rw [hb] at h
        exact ⟨0, b, d, x, rfl, rfl, hb, (Option.some.inj h).symm⟩
      | none =>
        rw [hb] at h
        obtain ⟨l1, h1, h2⟩ := Option.map_eq_some_iff.mp h
        obtain ⟨i, s, t, x, e1, e2, e3, e4⟩ := ih h1
        exact ⟨i + 1, s, t, x, by simpa using e1, by simpa using e2, e3, by rw [← h2, e4]; rfl⟩
def muS (s : TS) : Nat := 3 + s.2.length + nCondS s
def muL (l : List TS) : Nat := (l.map muS).sum
theorem mu_fp {f : TS → TS → Option TS} (hf : ∀ s t x, f s t = some x → muS x < muS s + muS t) {l l' : List TS} (h : fp f l = some l') : muL l' < muL l := by
  obtain ⟨i, s, t, x, e1, e2, e3, rfl⟩ := fp_inv h
  have a1 := sum_set muS (y := x) e1
  have l2 := (List.getElem?_eq_some_iff.mp e2).1
  have g : (l.set i x)[i + 1]? = some t := by rw [List.getElem?_set_ne (by omega)]; exact e2
  have a2 := sum_erase muS g
  have := hf s t x e3
  unfold muL
  omega
theorem mu_fm {f : TS → Option TS} (hf : ∀ s x, f s = some x → muS x < muS s) {l l' : List TS} (h : fm f l = some l') : muL l' < muL l := by
  obtain ⟨i, s, x, e1, e2, rfl⟩ := fm_inv h
  have a1 := sum_set muS (y := x) e1
  have := hf s x e2
  unfold muL
  omega
theorem er_len : ∀ {a : TA}, sureC ∈ a → (er a).length + 1 = a.length := by
  intro a
  induction a with
  | nil => intro h; cases h
  | cons c r ih =>
    intro h
    simp only [er]
    by_cases q : c = sureC
    · rw [if_pos q]; rfl
    · rw [if_neg q]
      have : sureC ∈ r := by
        rcases List.mem_cons.mp h with h | h
        · exact absurd h.symm q
        · exact h
      simp only [List.length_cons]
      rw [ih this]
theorem mu_g6 (s x : TS) (h : g6 s = some x) : muS x < muS s := by
  unfold g6 r6S at h
  obtain ⟨ps, h1, rfl⟩ := Option.map_eq_some_iff.mp h
  obtain ⟨i, p, p', e1, e2, rfl⟩ := fm_inv h1
  unfold r6P at e2
  obtain ⟨j, b, b', e3, e4, rfl⟩ := fm_inv e2
  unfold r6A at e4
  by_cases q : 1 < b.length ∧ sureC ∈ b
  · rw [if_pos q] at e4
    have e5 := Option.some.inj e4
    have a1 := er_len q.2
    rw [e5] at a1
    have a2 := sum_set List.length (y := b') e3
    have a3 := sum_set nCondP (y := p.set j b') e1
    unfold nCondP at a3
    unfold muS nCondS nCondP
    dsimp only
    rw [List.length_set]
    omega
  · rw [if_neg q] at e4; cases e4
theorem mu_er {s : TS} {i : Nat} {p : TP} (h : s.2[i]? = some p) : muS (s.1, s.2.eraseIdx i) < muS s := by
  have a1 := sum_erase nCondP h
  have a2 := List.length_eraseIdx_of_lt (List.getElem?_eq_some_iff.mp h).1
  have a3 := (List.getElem?_eq_some_iff.mp h).1
  unfold muS nCondS
  dsimp only
  omega
theorem mu_g7 (s x : TS) (h : g7 s = some x) : muS x < muS s := by
  unfold g7 r7S at h
  obtain ⟨ps, h1, rfl⟩ := Option.map_eq_some_iff.mp h
  obtain ⟨i, p, e1, e2, rfl⟩ := fr_inv h1
  exact mu_er e1
theorem mu_g88 (s x : TS) (h : g88 s = some x) : muS x < muS s := by
  unfold g88 r8S at h
  obtain ⟨ps, h1, rfl⟩ := Option.map_eq_some_iff.mp h
  obtain ⟨i, p, e1, rfl⟩ := fn2_inv h1
  exact mu_er e1
theorem mu_f2 (s t x : TS) (h : f2 s t = some x) : muS x < muS s + muS t := by
  unfold f2 at h
  split at h
  · rw [← Option.some.inj h]; unfold muS nCondS; dsimp only; omega
  · cases h
theorem mu_f3 (s t x : TS) (h : f3 s t = some x) : muS x < muS s + muS t := by
  unfold f3 at h
  split at h
  · rw [← Option.some.inj h]; unfold muS nCondS; omega
  · cases h
theorem mu_f4 (s t x : TS) (h : f4 s t = some x) : muS x < muS s + muS t := by
  unfold f4 at h
  split at h
  · rw [← Option.some.inj h]; unfold muS nCondS nCondP; simp; omega
  · cases h
theorem mu_f5 (s t x : TS) (h : f5 s t = some x) : muS x < muS s + muS t := by
  unfold f5 at h
  split at h
  · rw [← Option.some.inj h]; unfold muS nCondS; simp; omega
  · cases h
theorem tag_some {n : Int} {o : Option (List TS)} {r : Option (Int × List TS)} {x : Int × List TS} (h : tag n o r = some x) : (o = some x.2 ∧ x.1 = n) ∨ (o = none ∧ r = some x) := by
  cases o with
  | some l => simp only [tag, Option.some.injEq] at h; subst h; exact Or.inl ⟨rfl, rfl⟩
  | none => exact Or.inr ⟨rfl, h⟩
theorem mu_uR {l : List TS} {x : Int × List TS} (h : uR l = some x) : muL x.2 < muL l ∧ 1 ≤ x.1 ∧ x.1 ≤ 8 := by
  unfold uR uP at h
  rcases tag_some h with ⟨e, n⟩ | ⟨-, h⟩
  · refine ⟨?_, by omega, by omega⟩
    unfold r1 at e
    split at e
    · obtain ⟨i, y, e1, e2, e3⟩ := fr_inv e
      have := sum_erase muS e1
      rw [e3]
      unfold muL
      have h3 : 3 ≤ muS y := by unfold muS; omega
      omega
    · cases e
  rcases tag_some h with ⟨e, n⟩ | ⟨-, h⟩
  · exact ⟨mu_fp mu_f2 e, by omega, by omega⟩
  rcases tag_some h with ⟨e, n⟩ | ⟨-, h⟩
  · exact ⟨mu_fp mu_f3 e, by omega, by omega⟩
  rcases tag_some h with ⟨e, n⟩ | ⟨-, h⟩
  · exact ⟨mu_fp mu_f4 e, by omega, by omega⟩
  rcases tag_some h with ⟨e, n⟩ | ⟨-, h⟩
  · exact ⟨mu_fp mu_f5 e, by omega, by omega⟩
  rcases tag_some h with ⟨e, n⟩ | ⟨-, h⟩
  · exact ⟨mu_fm mu_g6 e, by omega, by omega⟩
  rcases tag_some h with ⟨e, n⟩ | ⟨-, h⟩
  · exact ⟨mu_fm mu_g7 e, by omega, by omega⟩
  rcases tag_some h with ⟨e, n⟩ | ⟨-, h⟩
  · exact ⟨mu_fm mu_g88 e, by omega, by omega⟩
  cases h
theorem sum_le {α : Type} {f : α → Nat} {b n : Nat} {l : List α} (hl : l.length ≤ n) (h : ∀ x ∈ l, f x ≤ b) : (l.map f).sum ≤ n * b := by
  have : ∀ (l : List α), (∀ x ∈ l, f x ≤ b) → (l.map f).sum ≤ l.length * b := by
    intro l
    induction l with
    | nil => intro _; simp
    | cons x r ih =>
      intro h
      have h1 := h x List.mem_cons_self
      have h2 := ih (fun y hy => h y (List.mem_cons_of_mem _ hy))
      simp only [List.map_cons, List.sum_cons, List.length_cons]
      rw [Nat.succ_mul]
      omega
  exact Nat.le_trans (this l h) (Nat.mul_le_mul_right _ hl)
theorem mu_le {t : TT} (hw : okW t) : muL t.2 ≤ 264 := by
  refine sum_le (b := 33) hw.2.1 (fun s hs => ?_)
  have os := hw.2.2 s hs
  have : nCondS s ≤ 3 * 9 := sum_le os.2.1 (fun p hp => by
    have op := os.2.2 p hp
    exact sum_le (n := 3) (b := 3) op.2.1 (fun a ha => (op.2.2 a ha).2.1))
  have := os.2.1
  unfold muS
  omega
/-- a path rewritten: the rules used, the steps that are left -/
def rwF : Nat → List TS → List Int × List TS
  | 0, l => ([], l)
  | f + 1, l => match uR l with
    | none => ([], l)
    | some x => (x.1 :: (rwF f x.2).1, (rwF f x.2).2)
