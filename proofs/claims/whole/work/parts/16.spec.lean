/-! ===== queries as values: what both sides are told by ===== -/
/-- a condition: whether it is an opposite, its kind (0 a position, 1 the last, 2 a value, 3 a short path), its digit, its short steps (axis, test) -/
abbrev TC : Type := Bool × Int × Int × List (Int × Int)
abbrev TA : Type := List TC
abbrev TP : Type := List TA
abbrev TS : Type := (Int × Int) × List TP
abbrev TT : Type := Bool × List TS
abbrev TQ : Type := List TT
def okT (x : Int × Int) : Prop := 0 ≤ x.1 ∧ x.1 ≤ 9 ∧ 0 ≤ x.2 ∧ x.2 ≤ 8
def okC (c : TC) : Prop := (c.2.1 = 0 ∧ 1 ≤ c.2.2.1 ∧ c.2.2.1 ≤ 9 ∧ c.2.2.2 = []) ∨ (c.2.1 = 1 ∧ c.2.2.1 = 0 ∧ c.2.2.2 = []) ∨ (c.2.1 = 2 ∧ 0 ≤ c.2.2.1 ∧ c.2.2.1 ≤ 9 ∧ c.2.2.2 = []) ∨ (c.2.1 = 3 ∧ c.2.2.1 = 0 ∧ 1 ≤ c.2.2.2.length ∧ c.2.2.2.length ≤ 3 ∧ ∀ x ∈ c.2.2.2, okT x)
def okA (a : TA) : Prop := 1 ≤ a.length ∧ a.length ≤ 3 ∧ ∀ c ∈ a, okC c
def okP (p : TP) : Prop := 1 ≤ p.length ∧ p.length ≤ 3 ∧ ∀ a ∈ p, okA a
def okS (s : TS) : Prop := okT s.1 ∧ s.2.length ≤ 3 ∧ ∀ p ∈ s.2, okP p
def okW (t : TT) : Prop := 1 ≤ t.2.length ∧ t.2.length ≤ 8 ∧ ∀ s ∈ t.2, okS s
def okQ (q : TQ) : Prop := q.length ≤ 4 ∧ ∀ t ∈ q, okW t
/-! writing -/
def wTest (x : Int × Int) : List Int := (if 1 ≤ x.1 then [ax_s.getD (x.1 - 1).toNat 0] else []) ++ [if x.2 = 8 then 42 else 97 + x.2]
/-- texts with a sign between them -/
def jn (z : Int) : List (List Int) → List Int
  | [] => []
  | x :: r => x ++ r.flatMap (fun y => z :: y)
def wCond (c : TC) : List Int := (if c.1 = true then [45] else []) ++ ((if c.2.1 = 0 then [] else [if c.2.1 = 1 then 36 else if c.2.1 = 2 then 61 else 63]) ++ ((if c.2.1 = 0 ∨ c.2.1 = 2 then [48 + c.2.2.1] else []) ++ jn 47 (c.2.2.2.map wTest)))
def wAlt (a : TA) : List Int := jn 44 (a.map wCond)
def wPred (p : TP) : List Int := 91 :: (jn 43 (p.map wAlt) ++ [93])
def wStep (s : TS) : List Int := wTest s.1 ++ s.2.flatMap wPred
def wPath (t : TT) : List Int := (if t.1 = true then [47] else []) ++ jn 47 (t.2.map wStep)
def wQry (q : TQ) : List Int := jn 124 (q.map wPath)
theorem jn_snoc (z : Int) (l : List (List Int)) (x : List Int) : jn z (l ++ [x]) = jn z l ++ ((if l = [] then [] else [z]) ++ x) := by
  cases l with
  | nil => simp [jn]
  | cons a l => simp [jn]
/-! numbers of a query -/
def nPred (t : TT) : Nat := (t.2.map (fun s => s.2.length)).sum
def nCondP (p : TP) : Nat := (p.map List.length).sum
def nCondS (s : TS) : Nat := (s.2.map nCondP).sum
def nCond (t : TT) : Nat := (t.2.map nCondS).sum
def isPosC (c : TC) : Bool := decide (c.2.1 ≤ 1)
def isPosP (p : TP) : Bool := p.any (fun a => a.any isPosC)
def isPosS (s : TS) : Bool := s.2.any isPosP
def isPosT (t : TT) : Bool := t.2.any isPosS
/-! the class's packing of a condition, its slots -/
def pks : List (Int × Int) → Int
  | [] => 0
  | x :: r => (x.1 + 16 * x.2) + 256 * pks r
def pk (c : TC) : Int := (c.2.1 + 1) + (if c.1 = true then 8 else 0) + 16 * c.2.2.2.length + 64 * (c.2.2.1 + pks c.2.2.2)
def slotv (ps : List TP) (k : Nat) : Int := match ps[k / 9]? with
  | none => 0
  | some p => match p[k % 9 / 3]? with
    | none => 0
    | some a => match a[k % 3]? with
      | none => 0
      | some c => pk c
theorem pks_bd : ∀ (l : List (Int × Int)), (∀ x ∈ l, okT x) → 0 ≤ pks l ∧ pks l < 256 ^ l.length := by
  intro l
  induction l with
  | nil => intro _; exact ⟨by decide, by decide⟩
  | cons x r ih =>
    intro h
    obtain ⟨h1, h2⟩ := ih (fun y hy => h y (List.mem_cons_of_mem _ hy))
    have hx := h x List.mem_cons_self
    unfold okT at hx
    simp only [pks, List.length_cons, Int.pow_succ]
    omega
theorem pk_bd {c : TC} (h : okC c) : 1 ≤ pk c ∧ pk c < 2147483648 := by
  obtain ⟨n, k, d, sh⟩ := c
  simp only [okC] at h
  simp only [pk]
  rcases h with ⟨rfl, h1, h2, rfl⟩ | ⟨rfl, rfl, rfl⟩ | ⟨rfl, h1, h2, rfl⟩ | ⟨rfl, rfl, h1, h2, h3⟩
  · cases n <;> simp [pks] <;> omega
  · cases n <;> simp [pks]
  · cases n <;> simp [pks] <;> omega
  · have hb : 0 ≤ pks sh ∧ pks sh < 16777216 := by
      obtain ⟨b1, b2⟩ := pks_bd sh h3
      refine ⟨b1, ?_⟩
      have h4 : sh.length = 1 ∨ sh.length = 2 ∨ sh.length = 3 := by omega
      rcases h4 with h4 | h4 | h4 <;> rw [h4] at b2 <;> simp at b2 <;> omega
    have hb2 : pks sh < 9437184 := by
      match sh, h1, h2, h3 with
      | [x], _, _, h3 => have := h3 x (by simp); unfold okT at this; simp [pks]; omega
      | [x, y], _, _, h3 => have := h3 x (by simp); have := h3 y (by simp); unfold okT at *; simp [pks]; omega
      | [x, y, z], _, _, h3 => have := h3 x (by simp); have := h3 y (by simp); have := h3 z (by simp); unfold okT at *; simp [pks]; omega
    cases n <;> simp <;> omega
/-! cells unchanged -/
def eqA (h h' : AH) (a : Nat) : Prop := kd h' a = kd h a ∧ ∀ j, gi h' a j = gi h a j ∧ gl h' a j = gl h a j ∧ gr h' a j = gr h a j
theorem eqA.rf {h : AH} {a : Nat} : eqA h h a := ⟨rfl, fun _ => ⟨rfl, rfl, rfl⟩⟩
theorem eqA.tr {h h1 h2 : AH} {a : Nat} (e1 : eqA h h1 a) (e2 : eqA h1 h2 a) : eqA h h2 a := ⟨e2.1.trans e1.1, fun j => ⟨((e2.2 j).1).trans (e1.2 j).1, ((e2.2 j).2.1).trans (e1.2 j).2.1, ((e2.2 j).2.2).trans (e1.2 j).2.2⟩⟩
theorem eqA.si {h : AH} {a b : Nat} {j v : Int} (hb : b ≠ a) : eqA h (si h a j v) b := ⟨rfl, fun k => ⟨by rw [gi_si, if_neg (fun z => hb z.1)], rfl, rfl⟩⟩
theorem eqA.sl {h : AH} {a b : Nat} {j : Int} {v : Int64} (hb : b ≠ a) : eqA h (sl h a j v) b := ⟨rfl, fun k => ⟨rfl, by rw [gl_sl, if_neg (fun z => hb z.1)], rfl⟩⟩
theorem eqA.sr {h : AH} {a b : Nat} {j : Int} {v : Option Nat} (hb : b ≠ a) : eqA h (sr h a j v) b := ⟨rfl, fun k => ⟨rfl, rfl, by rw [gr_sr, if_neg (fun z => hb z.1)]⟩⟩
/-- outside [lo, hi) -/
def eqO (h h' : AH) (lo hi : Nat) : Prop := nx h' = nx h ∧ ∀ a, (a < lo ∨ hi ≤ a) → eqA h h' a
theorem eqO.rf {h : AH} {lo hi : Nat} : eqO h h lo hi := ⟨rfl, fun _ _ => eqA.rf⟩
theorem eqO.tr {h h1 h2 : AH} {lo hi : Nat} (e1 : eqO h h1 lo hi) (e2 : eqO h1 h2 lo hi) : eqO h h2 lo hi := ⟨e2.1.trans e1.1, fun a ha => (e1.2 a ha).tr (e2.2 a ha)⟩
theorem eqO.mono {h h1 : AH} {lo hi lo' hi' : Nat} (e : eqO h h1 lo hi) (h1' : lo' ≤ lo) (h2 : hi ≤ hi') : eqO h h1 lo' hi' := ⟨e.1, fun a ha => e.2 a (by omega)⟩
theorem eqO.si {h : AH} {lo hi a : Nat} {j v : Int} (h1 : lo ≤ a) (h2 : a < hi) : eqO h (si h a j v) lo hi := ⟨rfl, fun b hb => eqA.si (by omega)⟩
theorem eqO.sl {h : AH} {lo hi a : Nat} {j : Int} {v : Int64} (h1 : lo ≤ a) (h2 : a < hi) : eqO h (sl h a j v) lo hi := ⟨rfl, fun b hb => eqA.sl (by omega)⟩
theorem eqO.sr {h : AH} {lo hi a : Nat} {j : Int} {v : Option Nat} (h1 : lo ≤ a) (h2 : a < hi) : eqO h (sr h a j v) lo hi := ⟨rfl, fun b hb => eqA.sr (by omega)⟩
/-- reads of writes, by place -/
theorem gi_ne {h : AH} {a b : Nat} {j k v : Int} (hb : b ≠ a ∨ k ≠ j) : gi (si h a j v) b k = gi h b k := by rw [gi_si, if_neg (by omega)]
theorem gi_at {h : AH} {a b : Nat} {j k v : Int} (hb : b = a) (hk : k = j) : gi (si h a j v) b k = v := by rw [gi_si, if_pos ⟨hb, hk⟩]
theorem gl_ne {h : AH} {a b : Nat} {j k : Int} {v : Int64} (hb : b ≠ a ∨ k ≠ j) : gl (sl h a j v) b k = gl h b k := by rw [gl_sl, if_neg (by omega)]
theorem gl_at {h : AH} {a b : Nat} {j k : Int} {v : Int64} (hb : b = a) (hk : k = j) : gl (sl h a j v) b k = v := by rw [gl_sl, if_pos ⟨hb, hk⟩]
theorem gr_ne {h : AH} {a b : Nat} {j k : Int} {v : Option Nat} (hb : b ≠ a ∨ k ≠ j) : gr (sr h a j v) b k = gr h b k := by rw [gr_sr, if_neg (by omega)]
theorem gr_at {h : AH} {a b : Nat} {j k : Int} {v : Option Nat} (hb : b = a) (hk : k = j) : gr (sr h a j v) b k = v := by rw [gr_sr, if_pos ⟨hb, hk⟩]
