/-! ===== the model: queries in its cells; frames of ints; the machine's way ===== -/
/-- all the same but the ints that S names -/
def eqG (S : Nat → Int → Prop) (h h' : AH) : Prop := (∀ b, kd h' b = kd h b) ∧ (∀ b j, gr h' b j = gr h b j) ∧ (∀ b j, gl h' b j = gl h b j) ∧ nx h' = nx h ∧ ∀ b j, ¬ S b j → gi h' b j = gi h b j
theorem eqG.rf {S : Nat → Int → Prop} {h : AH} : eqG S h h := ⟨fun _ => rfl, fun _ _ => rfl, fun _ _ => rfl, rfl, fun _ _ _ => rfl⟩
theorem eqG.tr {S : Nat → Int → Prop} {h h1 h2 : AH} (e1 : eqG S h h1) (e2 : eqG S h1 h2) : eqG S h h2 := ⟨fun b => (e2.1 b).trans (e1.1 b), fun b j => (e2.2.1 b j).trans (e1.2.1 b j), fun b j => (e2.2.2.1 b j).trans (e1.2.2.1 b j), e2.2.2.2.1.trans e1.2.2.2.1, fun b j hs => (e2.2.2.2.2 b j hs).trans (e1.2.2.2.2 b j hs)⟩
theorem eqG.mono {S S' : Nat → Int → Prop} {h h' : AH} (e : eqG S h h') (hs : ∀ b j, S b j → S' b j) : eqG S' h h' := ⟨e.1, e.2.1, e.2.2.1, e.2.2.2.1, fun b j q => e.2.2.2.2 b j (fun z => q (hs b j z))⟩
theorem eqG.si {S : Nat → Int → Prop} {h : AH} {a : Nat} {j v : Int} (hs : S a j) : eqG S h (si h a j v) := ⟨fun _ => rfl, fun _ _ => rfl, fun _ _ => rfl, rfl, fun b k q => by
  rw [gi_si, if_neg]
  rintro ⟨rfl, rfl⟩
  exact q hs⟩
theorem eqG.sh {S : Nat → Int → Prop} {h h' : AH} {a : Nat} (e : eqG S h h') (hM : shM h a) : shM h' a := hM.eq (fun c _ _ => e.1 c) (fun j => e.2.1 a j)
/-- what reading may write: the place of reading, some cells of the query -/
def SR (a : Nat) (lo hi : Int) : Nat → Int → Prop := fun b j => (b = a ∧ j = 11) ∨ (b = a + 7 ∧ lo ≤ j ∧ j < hi)
theorem SR.mono {a : Nat} {lo hi lo' hi' : Int} (h1 : lo' ≤ lo) (h2 : hi ≤ hi') : ∀ b j, SR a lo hi b j → SR a lo' hi' b j := by
  intro b j h
  unfold SR at *
  omega
def gC (f : Int → Int) (b : Int) (c : TC) : Prop := f b = bI c.1 ∧ f (b + 1) = c.2.1 ∧ f (b + 2) = c.2.2.1 ∧ f (b + 3) = c.2.2.2.length ∧ ∀ (k : Nat) (x : Int × Int), c.2.2.2[k]? = some x → f (b + 4 + k) = 10 * x.1 + x.2
def gA (f : Int → Int) (b : Int) (al : TA) : Prop := f b = al.length ∧ ∀ (k : Nat) (c : TC), al[k]? = some c → gC f (b + 1 + 7 * k) c
def gP (f : Int → Int) (b : Int) (p : TP) : Prop := f b = p.length ∧ ∀ (k : Nat) (al : TA), p[k]? = some al → gA f (b + 1 + 22 * k) al
def gS (f : Int → Int) (b : Int) (s : TS) : Prop := f b = s.1.1 ∧ f (b + 1) = s.1.2 ∧ f (b + 2) = s.2.length ∧ ∀ (k : Nat) (p : TP), s.2[k]? = some p → gP f (b + 3 + 67 * k) p
def gT (f : Int → Int) (b : Int) (t : TT) : Prop := f b = bI t.1 ∧ f (b + 1) = t.2.length ∧ ∀ (k : Nat) (s : TS), t.2[k]? = some s → gS f (b + 2 + 204 * k) s
def gQ (f : Int → Int) (q : TQ) : Prop := f 0 = q.length ∧ ∀ (k : Nat) (t : TT), q[k]? = some t → gT f (1 + 1634 * k) t
theorem lt_of_get {α : Type} {l : List α} {k : Nat} {x : α} (h : l[k]? = some x) : k < l.length := (List.getElem?_eq_some_iff.mp h).1
theorem okC_sh {c : TC} (h : okC c) : c.2.2.2.length ≤ 3 := by rcases h with q | q | q | q <;> simp [q] <;> omega
theorem gC.eq {f g : Int → Int} {b b' : Int} {c : TC} (hc : okC c) (h : gC f b c) (e : ∀ j : Int, 0 ≤ j → j < 7 → g (b' + j) = f (b + j)) : gC g b' c := by
  have := okC_sh hc
  obtain ⟨h1, h2, h3, h4, h5⟩ := h
  refine ⟨?_, (e 1 (by omega) (by omega)).trans h2, (e 2 (by omega) (by omega)).trans h3, (e 3 (by omega) (by omega)).trans h4, fun k x hx => ?_⟩
  · have := e 0 (by omega) (by omega)
    simp only [Int.add_zero] at this
    exact this.trans h1
  · have hl := lt_of_get hx
    have := e (4 + k) (by omega) (by omega)
    rw [← Int.add_assoc, ← Int.add_assoc] at this
    exact this.trans (h5 k x hx)
theorem gA.eq {f g : Int → Int} {b b' : Int} {al : TA} (ha : okA al) (h : gA f b al) (e : ∀ j : Int, 0 ≤ j → j < 22 → g (b' + j) = f (b + j)) : gA g b' al := by
  obtain ⟨h1, h2⟩ := h
  obtain ⟨a1, a2, a3⟩ := ha
  refine ⟨?_, fun k c hk => ?_⟩
  · have := e 0 (by omega) (by omega)
    simp only [Int.add_zero] at this
    exact this.trans h1
  · have hl := lt_of_get hk
    refine (h2 k c hk).eq (a3 c (List.mem_of_getElem? hk)) (fun j j1 j2 => ?_)
    have := e (1 + 7 * k + j) (by omega) (by omega)
    rw [show b' + 1 + 7 * (k : Int) + j = b' + (1 + 7 * k + j) by omega, show b + 1 + 7 * (k : Int) + j = b + (1 + 7 * k + j) by omega]
    exact this
theorem gP.eq {f g : Int → Int} {b b' : Int} {p : TP} (hp : okP p) (h : gP f b p) (e : ∀ j : Int, 0 ≤ j → j < 67 → g (b' + j) = f (b + j)) : gP g b' p := by
  obtain ⟨h1, h2⟩ := h
  obtain ⟨a1, a2, a3⟩ := hp
  refine ⟨?_, fun k c hk => ?_⟩
  · have := e 0 (by omega) (by omega)
    simp only [Int.add_zero] at this
    exact this.trans h1
  · have hl := lt_of_get hk
    refine (h2 k c hk).eq (a3 c (List.mem_of_getElem? hk)) (fun j j1 j2 => ?_)
    have := e (1 + 22 * k + j) (by omega) (by omega)
    rw [show b' + 1 + 22 * (k : Int) + j = b' + (1 + 22 * k + j) by omega, show b + 1 + 22 * (k : Int) + j = b + (1 + 22 * k + j) by omega]
    exact this
theorem gS.eq {f g : Int → Int} {b b' : Int} {s : TS} (hs : okS s) (h : gS f b s) (e : ∀ j : Int, 0 ≤ j → j < 204 → g (b' + j) = f (b + j)) : gS g b' s := by
  obtain ⟨h1, h2, h3, h4⟩ := h
  obtain ⟨a1, a2, a3⟩ := hs
  refine ⟨?_, (e 1 (by omega) (by omega)).trans h2, (e 2 (by omega) (by omega)).trans h3, fun k p hk => ?_⟩
  · have := e 0 (by omega) (by omega)
    simp only [Int.add_zero] at this
    exact this.trans h1
  · have hl := lt_of_get hk
    refine (h4 k p hk).eq (a3 p (List.mem_of_getElem? hk)) (fun j j1 j2 => ?_)
    have := e (3 + 67 * k + j) (by omega) (by omega)
    rw [show b' + 3 + 67 * (k : Int) + j = b' + (3 + 67 * k + j) by omega, show b + 3 + 67 * (k : Int) + j = b + (3 + 67 * k + j) by omega]
    exact this
theorem gT.eq {f g : Int → Int} {b b' : Int} {t : TT} (hl8 : t.2.length ≤ 8) (hs : ∀ s ∈ t.2, okS s) (h : gT f b t) (e : ∀ j : Int, 0 ≤ j → j < 1634 → g (b' + j) = f (b + j)) : gT g b' t := by
  obtain ⟨h1, h2, h4⟩ := h
  refine ⟨?_, (e 1 (by omega) (by omega)).trans h2, fun k p hk => ?_⟩
  · have := e 0 (by omega) (by omega)
    simp only [Int.add_zero] at this
    exact this.trans h1
  · have hl := lt_of_get hk
    refine (h4 k p hk).eq (hs p (List.mem_of_getElem? hk)) (fun j j1 j2 => ?_)
    have := e (2 + 204 * k + j) (by omega) (by omega)
    rw [show b' + 2 + 204 * (k : Int) + j = b' + (2 + 204 * k + j) by omega, show b + 2 + 204 * (k : Int) + j = b + (2 + 204 * k + j) by omega]
    exact this
/-! the machine's way over a text of n signs -/
def rn (f : Nat → Nat) : Nat → Nat → PS → Option PS
  | 0, _, z => some z
  | m + 1, k, z => (acc (f k) z).bind (rn f m (k + 1))
def Rc (f : Nat → Nat) (n k : Nat) (z : PS) (k' : Nat) (z' : PS) : Prop := ∃ m, k' = k + m ∧ k' ≤ n ∧ rn f m k z = some z'
def stk (f : Nat → Nat) (n k : Nat) (z : PS) : Prop := (k < n ∧ acc (f k) z = none) ∨ (k = n ∧ z.1 ≠ 4)
theorem rn_add {f : Nat → Nat} : ∀ (m m' k : Nat) (z : PS), rn f (m + m') k z = (rn f m k z).bind (rn f m' (k + m)) := by
  intro m
  induction m with
  | zero => intro m' k z; simp [rn]
  | succ m ih =>
    intro m' k z
    rw [show m + 1 + m' = (m + m') + 1 by omega]
    simp only [rn]
    cases e : acc (f k) z with
    | none => rfl
    | some z1 =>
      simp only [Option.bind_some]
      rw [ih, show k + 1 + m = k + (m + 1) by omega]
theorem Rc.rf {f : Nat → Nat} {n k : Nat} {z : PS} (h : k ≤ n) : Rc f n k z k z := ⟨0, rfl, h, rfl⟩
theorem Rc.tr {f : Nat → Nat} {n k k1 k2 : Nat} {z z1 z2 : PS} (h1 : Rc f n k z k1 z1) (h2 : Rc f n k1 z1 k2 z2) : Rc f n k z k2 z2 := by
  obtain ⟨m1, e1, l1, r1⟩ := h1
  obtain ⟨m2, e2, l2, r2⟩ := h2
  refine ⟨m1 + m2, by omega, l2, ?_⟩
  rw [rn_add, r1]
  subst e1
  exact r2
theorem Rc.one {f : Nat → Nat} {n k : Nat} {z z' : PS} (h : k < n) (e : acc (f k) z = some z') : Rc f n k z (k + 1) z' := ⟨1, rfl, by omega, by simp [rn, e]⟩
theorem Rc.le {f : Nat → Nat} {n k k' : Nat} {z z' : PS} (h : Rc f n k z k' z') : k ≤ k' ∧ k' ≤ n := by obtain ⟨m, e, l, -⟩ := h; omega
theorem Rc.ok {f : Nat → Nat} (hf : ∀ k, f k < 128) {n k k' : Nat} {z z' : PS} (h : Rc f n k z k' z') (hz : okZ z) : okZ z' := by
  obtain ⟨m, e, l, r⟩ := h
  clear e l
  induction m generalizing k z with
  | zero => simp only [rn, Option.some.injEq] at r; subst r; exact hz
  | succ m ih =>
    simp only [rn] at r
    cases e : acc (f k) z with
    | none => rw [e] at r; simp at r
    | some z1 => rw [e] at r; exact ih (okZ_acc (hf k) hz e) r
theorem flt_Rc {f : Nat → Nat} {n k k' : Nat} {z z' : PS} (h : Rc f n k z k' z') : flt f (n - k) k z = flt f (n - k') k' z' := by
  obtain ⟨m, e, l, r⟩ := h
  induction m generalizing k z with
  | zero => simp only [rn, Option.some.injEq] at r; subst r; subst e; rfl
  | succ m ih =>
    simp only [rn] at r
    cases e9 : acc (f k) z with
    | none => rw [e9] at r; simp at r
    | some z1 =>
      rw [e9] at r
      rw [show n - k = (n - (k + 1)) + 1 by omega]
      simp only [flt, e9]
      exact ih (by omega) r
theorem flt_stk {f : Nat → Nat} {n k : Nat} {z : PS} (h : stk f n k z) : flt f (n - k) k z = ((k : Int), z) := by
  rcases h with ⟨h1, h2⟩ | ⟨h1, h2⟩
  · rw [show n - k = (n - (k + 1)) + 1 by omega]
    simp only [flt, h2]
  · subst h1
    rw [Nat.sub_self]
    simp only [flt]
    rw [if_neg h2]
/-- two ends: not read (0), read (1) -/
def rB (P0 P1 : AH → Prop) : AR → AH → Prop := fun r h' => (r = .inl (some (vi 0)) ∧ P0 h') ∨ (r = .inl (some (vi 1)) ∧ P1 h')
/-- the text that is read -/
def isX (h : AH) (a : Nat) (f : Nat → Nat) (n : Nat) : Prop := shM h a ∧ gi h a 10 = n ∧ n ≤ 400 ∧ (∀ k : Nat, k < n → gi h (a + 6) k = f k) ∧ ∀ k, f k < 128
theorem isX.eq {h h' : AH} {a : Nat} {f : Nat → Nat} {n : Nat} {lo hi : Int} (hX : isX h a f n) (e : eqG (SR a lo hi) h h') : isX h' a f n := by
  obtain ⟨x1, x2, x3, x4, x5⟩ := hX
  refine ⟨e.sh x1, (e.2.2.2.2 a 10 (by unfold SR; omega)).trans x2, x3, fun k hk => (e.2.2.2.2 (a + 6) k (by unfold SR; omega)).trans (x4 k hk), x5⟩
/-- not read: the machine stops at the same place -/
def nrd (h : AH) (a : Nat) (f : Nat → Nat) (n k : Nat) (z : PS) (lo hi : Int) (h' : AH) : Prop := eqG (SR a lo hi) h h' ∧ ∃ k' z', Rc f n k z k' z' ∧ stk f n k' z' ∧ gi h' a 11 = k'
/-- the sign that stands at a place, none behind the end -/
def hr9 (f : Nat → Nat) (n k : Nat) : Int := if k < n then (f k : Int) else -1
theorem hr9_bd {f : Nat → Nat} (hf : ∀ k, f k < 128) (n k : Nat) : -1 ≤ hr9 f n k ∧ hr9 f n k ≤ 127 := by
  unfold hr9
  have := hf k
  split <;> omega
theorem hr9_lt {f : Nat → Nat} {n k c : Nat} (h : hr9 f n k = c) : k < n ∧ f k = c := by
  unfold hr9 at h
  split at h
  · next q => exact ⟨q, by omega⟩
  · omega
theorem mHere_eq {h : AH} {a k : Nat} {f : Nat → Nat} {n : Nat} (hX : isX h a f n) (hk : gi h a 11 = k) : mHere h a = hr9 f n k := by
  unfold mHere hr9
  rw [hX.2.1, hk]
  by_cases q : k < n
  · rw [if_pos (by omega), if_pos q, hX.2.2.2.1 k q]
  · rw [if_neg (by omega), if_neg q]
theorem aw_invV_2 {γ : GG} {M : MD} {d kc ks pc : Nat} {ls : List (Nat × AV)} {st : List AV} {h : AH} {Q : AR → AH → Prop} {M' : MD} {d' kc' ks' n idx : Nat} {a : Nat} {as st0 : List AV} {P0 P1 : AH → Prop} (hd : decode M.2.1 pc = .ok (.invokevirtual idx, 3)) (hm : mV M' n) (hlk : Cond.methodLink M.1.cls idx M'.1 ∈ lw_tbl) (ht0 : M.2.2.2.2 = []) (hC : Call γ M' d' kc' ks' (vr (some a) :: as) h (rB P0 P1)) (ho : isO h a M'.1.cls) (has : st0 = as.reverse ++ vr (some a) :: st) (hn : as.length = n) (hd' : d' + 1 ≤ d) (h1' : kc' ≤ kc) (h2' : ks' ≤ ks) (hst : st.length ≤ 4) (k0 : ∀ h' : AH, P0 h' → AW γ M d (kc - kc') (ks - ks') (pc + 3) ls (vi 0 :: st) h' Q) (k1 : ∀ h' : AH, P1 h' → AW γ M d (kc - kc') (ks - ks') (pc + 3) ls (vi 1 :: st) h' Q) : AW γ M d kc ks pc ls st0 h Q := by
  refine aw_invV_q hd hm hlk ht0 hC ho has hn hd' h1' h2' hst (fun v9 h9 hq => ?_) (fun X h9 hq => ?_)
  · rcases hq with ⟨e9, p9⟩ | ⟨e9, p9⟩
    · cases e9; exact k0 h9 p9
    · cases e9; exact k1 h9 p9
  · rcases hq with ⟨e9, -⟩ | ⟨e9, -⟩ <;> cases e9
