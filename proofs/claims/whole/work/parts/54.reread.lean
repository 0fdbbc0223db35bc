/-! ===== what is written is read again ===== -/
def rl : List Int → PS → Option PS
  | [], z => some z
  | c :: r, z => (acc c.toNat z).bind (rl r)
theorem rl_app : ∀ (l m : List Int) (z : PS), rl (l ++ m) z = (rl l z).bind (rl m) := by
  intro l
  induction l with
  | nil => intro m z; rfl
  | cons c l ih =>
    intro m z
    simp only [List.cons_append, rl]
    cases acc c.toNat z with
    | none => rfl
    | some z1 => simp only [Option.bind_some]; exact ih m z1
theorem rl_cat {l m : List Int} {z z1 z2 : PS} (h1 : rl l z = some z1) (h2 : rl m z1 = some z2) : rl (l ++ m) z = some z2 := by rw [rl_app, h1]; exact h2
theorem rl_cons {c : Int} {m : List Int} {z z1 z2 : PS} (h1 : acc c.toNat z = some z1) (h2 : rl m z1 = some z2) : rl (c :: m) z = some z2 := by simp only [rl, h1]; exact h2
theorem b_axr : ∀ n : Nat, n < 9 → axN (ax_s.getD n 0).toNat = n + 1 ∧ (ax_s.getD n 0).toNat ≠ 47 := by decide
theorem b_ter : ∀ n : Nat, n < 9 → teN (if (n : Int) = 8 then (42 : Int) else 97 + (n : Int)).toNat = n ∧ axN (if (n : Int) = 8 then (42 : Int) else 97 + (n : Int)).toNat = 0 ∧ (if (n : Int) = 8 then (42 : Int) else 97 + (n : Int)).toNat ≠ 47 := by decide
theorem te_r {t : Int} (h : 0 ≤ t ∧ t ≤ 8) : teN (if t = 8 then (42 : Int) else 97 + t).toNat = t ∧ axN (if t = 8 then (42 : Int) else 97 + t).toNat = 0 ∧ (if t = 8 then (42 : Int) else 97 + t).toNat ≠ 47 := by
  obtain ⟨n, rfl⟩ := Int.eq_ofNat_of_zero_le h.1
  exact b_ter n (by omega)
theorem ax_r {x : Int} (h : 1 ≤ x ∧ x ≤ 9) : axN (ax_s.getD (x - 1).toNat 0).toNat = x ∧ (ax_s.getD (x - 1).toNat 0).toNat ≠ 47 := by
  obtain ⟨n, hn⟩ := Int.eq_ofNat_of_zero_le (show 0 ≤ x - 1 by omega)
  rw [hn]
  have := b_axr n (by omega)
  simp only [Int.toNat_natCast]
  exact ⟨by omega, this.2⟩
theorem rl_test {x : Int × Int} (hx : okT x) {st : Nat} {ax : Int} {Q : TQ} {T : TT} {s : TS} {kk : TP × TA × TC} (hst : st ≤ 2) (hl : T.2.length < 8) : rl (wTest x) (st, ax, Q, T, s, kk) = some (4, 0, Q, T, (x, []), k0) := by
  obtain ⟨x1, x2, x3, x4⟩ := hx
  obtain ⟨a, t⟩ := x
  dsimp only at x1 x2 x3 x4
  obtain ⟨t1, t2, t3⟩ := te_r ⟨x3, x4⟩
  unfold wTest
  dsimp only
  by_cases q : 1 ≤ a
  · rw [if_pos q]
    obtain ⟨a1, a2⟩ := ax_r ⟨q, x2⟩
    refine rl_cons (z1 := (3, a, Q, T, s0, k0)) ?_ (rl_cons (z1 := (4, 0, Q, T, ((a, t), []), k0)) ?_ rfl)
    · rw [acc_stp (by omega)]
      unfold a_stp
      rw [if_neg (by omega), a1, if_neg (by omega)]
    · show a_tst _ a Q T = _
      rw [t1]
      unfold a_tst
      rw [if_neg (by omega)]
  · rw [if_neg q]
    have a0 : a = 0 := by omega
    subst a0
    refine rl_cons (z1 := (4, 0, Q, T, ((0, t), []), k0)) ?_ rfl
    rw [acc_stp (by omega)]
    unfold a_stp
    rw [if_neg (by omega), t2, if_pos rfl, t1]
    unfold a_tst
    rw [if_neg (by omega)]
theorem rl_short {x : Int × Int} (hx : okT x) {ax : Int} {Q : TQ} {T : TT} {s : TS} {pr : TP} {al : TA} {c : TC} : rl (wTest x) (8, ax, Q, T, s, pr, al, c) = some (10, 0, Q, T, s, pr, al, c.1, 3, 0, c.2.2.2 ++ [x]) := by
  obtain ⟨x1, x2, x3, x4⟩ := hx
  obtain ⟨a, t⟩ := x
  dsimp only at x1 x2 x3 x4
  obtain ⟨t1, t2, t3⟩ := te_r ⟨x3, x4⟩
  unfold wTest
  dsimp only
  by_cases q : 1 ≤ a
  · rw [if_pos q]
    obtain ⟨a1, a2⟩ := ax_r ⟨q, x2⟩
    refine rl_cons (z1 := (9, a, Q, T, s, pr, al, c)) ?_ (rl_cons (z1 := (10, 0, Q, T, s, pr, al, c.1, 3, 0, c.2.2.2 ++ [(a, t)])) ?_ rfl)
    · show (if axN _ = 0 then _ else some (9, axN _, Q, T, s, pr, al, c)) = _
      rw [a1, if_neg (by omega)]
    · show a_stt _ a Q T s pr al c = _
      rw [t1]
      unfold a_stt
      rw [if_neg (by omega)]
  · rw [if_neg q]
    have a0 : a = 0 := by omega
    subst a0
    refine rl_cons (z1 := (10, 0, Q, T, s, pr, al, c.1, 3, 0, c.2.2.2 ++ [(0, t)])) ?_ rfl
    show (if axN _ = 0 then a_stt _ 0 Q T s pr al c else _) = _
    rw [t2, if_pos rfl, t1]
    unfold a_stt
    rw [if_neg (by omega)]
theorem rl_shorts {Q : TQ} {T : TT} {s : TS} {pr : TP} {al : TA} {ng : Bool} : ∀ (r sh : List (Int × Int)), (∀ x ∈ r, okT x) → sh.length + r.length ≤ 3 → rl ((r.map wTest).flatMap (fun y => 47 :: y)) (10, 0, Q, T, s, pr, al, ng, 3, 0, sh) = some (10, 0, Q, T, s, pr, al, ng, 3, 0, sh ++ r) := by
  intro r
  induction r with
  | nil => intro sh _ _; simp [rl]
  | cons x r ih =>
    intro sh hx hl
    simp only [List.map_cons, List.flatMap_cons]
    simp only [List.length_cons] at hl
    refine rl_cat (z1 := (10, 0, Q, T, s, pr, al, ng, 3, 0, sh ++ [x])) (rl_cons (z1 := (8, 0, Q, T, s, pr, al, ng, 3, 0, sh)) ?_ (rl_short (hx x List.mem_cons_self))) ?_
    · show acc 47 _ = _
      rw [acc_s47, if_neg (show ¬ sh.length = 3 by omega)]
    · have := ih (sh ++ [x]) (fun y hy => hx y (List.mem_cons_of_mem _ hy)) (by simp; omega)
      rw [List.append_assoc] at this
      exact this
/-- the states behind a condition -/
def ceS (st : Nat) : Prop := st = 10 ∨ st = 11
theorem rl_atom {c : TC} (hc : okC c) {z : PS} {Q : TQ} {T : TT} {s : TS} {pr : TP} {al : TA} (hz : ∀ ch, ch ≠ 45 → acc ch z = a_atm ch c.1 Q T s pr al) : ∃ st, ceS st ∧ rl ((if c.2.1 = 0 then [] else [if c.2.1 = 1 then 36 else if c.2.1 = 2 then 61 else 63]) ++ ((if c.2.1 = 0 ∨ c.2.1 = 2 then [48 + c.2.2.1] else []) ++ jn 47 (c.2.2.2.map wTest))) z = some (st, 0, Q, T, s, pr, al, c) := by
  obtain ⟨ng, k, d, sh⟩ := c
  simp only [okC] at hc
  dsimp only at hz ⊢
  rcases hc with ⟨rfl, h1, h2, rfl⟩ | ⟨rfl, rfl, rfl⟩ | ⟨rfl, h1, h2, rfl⟩ | ⟨rfl, rfl, h1, h2, h3⟩
  · refine ⟨11, Or.inr rfl, ?_⟩
    rw [if_pos rfl, if_pos (Or.inl rfl)]
    refine rl_cons (z1 := (11, 0, Q, T, s, pr, al, ng, 0, d, [])) ?_ rfl
    rw [hz _ (by omega), atm_dig (by omega), show (((48 + d).toNat : Nat) : Int) - 48 = d by omega]
  · refine ⟨11, Or.inr rfl, ?_⟩
    rw [if_neg (by decide), if_pos rfl, if_neg (by decide)]
    refine rl_cons (z1 := (11, 0, Q, T, s, pr, al, ng, 1, 0, [])) ?_ rfl
    rw [hz _ (by decide)]
    rfl
  · refine ⟨11, Or.inr rfl, ?_⟩
    rw [if_neg (by decide), if_neg (by decide), if_pos rfl, if_pos (Or.inr rfl)]
    refine rl_cons (z1 := (7, 0, Q, T, s, pr, al, ng, 0, 0, [])) ?_ (rl_cons (z1 := (11, 0, Q, T, s, pr, al, ng, 2, d, [])) ?_ rfl)
    · rw [hz _ (by decide)]
      rfl
    · show a_dig _ 48 2 ng Q T s pr al = _
      unfold a_dig
      rw [if_neg (by omega), show (((48 + d).toNat : Nat) : Int) - 48 = d by omega]
  · refine ⟨10, Or.inl rfl, ?_⟩
    rw [if_neg (by decide), if_neg (by decide), if_neg (by decide), if_neg (by decide)]
    refine rl_cons (z1 := (8, 0, Q, T, s, pr, al, ng, 3, 0, [])) ?_ ?_
    · rw [hz _ (by decide)]
      rfl
    · match sh, h1, h2, h3 with
      | x :: r, h1, h2, h3 =>
        show rl (wTest x ++ (r.map wTest).flatMap (fun y => 47 :: y)) _ = _
        exact rl_cat (rl_short (h3 x List.mem_cons_self)) (rl_shorts r [x] (fun y hy => h3 y (List.mem_cons_of_mem _ hy)) (by simp at h2 ⊢; omega))
theorem rl_cond {c : TC} (hc : okC c) {Q : TQ} {T : TT} {s : TS} {pr : TP} {al : TA} : ∃ st, ceS st ∧ rl (wCond c) (5, 0, Q, T, s, pr, al, c0) = some (st, 0, Q, T, s, pr, al, c) := by
  unfold wCond
  by_cases q : c.1 = true
  · obtain ⟨st, h1, h2⟩ := rl_atom hc (z := (6, 0, Q, T, s, pr, al, true, 0, 0, [])) (Q := Q) (T := T) (s := s) (pr := pr) (al := al) (fun ch _ => by rw [q]; rfl)
    refine ⟨st, h1, ?_⟩
    rw [if_pos q]
    exact rl_cons (z1 := (6, 0, Q, T, s, pr, al, true, 0, 0, [])) rfl h2
  · obtain ⟨st, h1, h2⟩ := rl_atom hc (z := (5, 0, Q, T, s, pr, al, c0)) (Q := Q) (T := T) (s := s) (pr := pr) (al := al) (fun ch h => by
      simp only [acc]
      rw [if_neg h, show c.1 = false by simpa using q])
    refine ⟨st, h1, ?_⟩
    rw [if_neg q]
    exact h2
theorem acc_ces {ch st : Nat} (h : ceS st) (hc : ch ≠ 47) {Q : TQ} {T : TT} {s : TS} {pr : TP} {al : TA} {c : TC} : acc ch (st, 0, Q, T, s, pr, al, c) = a_cend ch Q T s pr al c := acc_ce (by rcases h with h | h; exact Or.inr ⟨h, hc⟩; exact Or.inl h)
theorem rl_conds {Q : TQ} {T : TT} {s : TS} {pr : TP} : ∀ (r al : TA) (c : TC) (st : Nat), (∀ c ∈ r, okC c) → ceS st → al.length + 1 + r.length ≤ 3 → ∃ st' al' c', ceS st' ∧ al' ++ [c'] = al ++ c :: r ∧ rl ((r.map wCond).flatMap (fun y => 44 :: y)) (st, 0, Q, T, s, pr, al, c) = some (st', 0, Q, T, s, pr, al', c') := by
  intro r
  induction r with
  | nil => intro al c st _ h1 _; exact ⟨st, al, c, h1, rfl, rfl⟩
  | cons x r ih =>
    intro al c st hx h1 hl
    simp only [List.length_cons] at hl
    obtain ⟨st1, g1, g2⟩ := rl_cond (hx x List.mem_cons_self) (Q := Q) (T := T) (s := s) (pr := pr) (al := al ++ [c])
    obtain ⟨st', al', c', f1, f2, f3⟩ := ih (al ++ [c]) x st1 (fun y hy => hx y (List.mem_cons_of_mem _ hy)) g1 (by simp; omega)
    refine ⟨st', al', c', f1, by rw [f2]; simp, ?_⟩
    simp only [List.map_cons, List.flatMap_cons]
    refine rl_cat (rl_cons (z1 := (5, 0, Q, T, s, pr, al ++ [c], c0)) ?_ g2) f3
    rw [acc_ces h1 (by decide)]
    unfold a_cend
    rw [if_neg (by decide), if_pos ⟨rfl, by omega⟩]
theorem rl_alt {a : TA} (ha : okA a) {Q : TQ} {T : TT} {s : TS} {pr : TP} : ∃ st al c, ceS st ∧ al ++ [c] = a ∧ rl (wAlt a) (5, 0, Q, T, s, pr, [], c0) = some (st, 0, Q, T, s, pr, al, c) := by
  obtain ⟨a1, a2, a3⟩ := ha
  match a, a1, a2, a3 with
  | x :: r, a1, a2, a3 =>
    obtain ⟨st1, g1, g2⟩ := rl_cond (a3 x List.mem_cons_self) (Q := Q) (T := T) (s := s) (pr := pr) (al := [])
    obtain ⟨st', al', c', f1, f2, f3⟩ := rl_conds (Q := Q) (T := T) (s := s) (pr := pr) r [] x st1 (fun y hy => a3 y (List.mem_cons_of_mem _ hy)) g1 (by simp at a2 ⊢; omega)
    exact ⟨st', al', c', f1, f2, rl_cat g2 f3⟩
theorem rl_alts {Q : TQ} {T : TT} {s : TS} : ∀ (r pr : TP) (al : TA) (c : TC) (st : Nat), (∀ a ∈ r, okA a) → ceS st → pr.length + 1 + r.length ≤ 3 → ∃ st' pr' al' c', ceS st' ∧ pr' ++ [al' ++ [c']] = pr ++ (al ++ [c]) :: r ∧ rl ((r.map wAlt).flatMap (fun y => 43 :: y)) (st, 0, Q, T, s, pr, al, c) = some (st', 0, Q, T, s, pr', al', c') := by
  intro r
  induction r with
  | nil => intro pr al c st _ h1 _; exact ⟨st, pr, al, c, h1, rfl, rfl⟩
  | cons x r ih =>
    intro pr al c st hx h1 hl
    simp only [List.length_cons] at hl
    obtain ⟨st1, al1', c1', g1, g0, g2⟩ := rl_alt (hx x List.mem_cons_self) (Q := Q) (T := T) (s := s) (pr := pr ++ [al ++ [c]])
    obtain ⟨st', pr', al', c', f1, f2, f3⟩ := ih (pr ++ [al ++ [c]]) al1' c1' st1 (fun y hy => hx y (List.mem_cons_of_mem _ hy)) g1 (by simp; omega)
    refine ⟨st', pr', al', c', f1, by rw [f2, g0]; simp, ?_⟩
    simp only [List.map_cons, List.flatMap_cons]
    refine rl_cat (rl_cons (z1 := (5, 0, Q, T, s, pr ++ [al ++ [c]], [], c0)) ?_ g2) f3
    rw [acc_ces h1 (by decide)]
    unfold a_cend
    rw [if_neg (by decide), if_neg (fun g => absurd g.1 (by decide)), if_pos ⟨rfl, by omega⟩]
theorem rl_pred {p : TP} (hp : okP p) {Q : TQ} {T : TT} {s : TS} (hs : s.2.length < 3) : rl (wPred p) (4, 0, Q, T, s, k0) = some (4, 0, Q, T, (s.1, s.2 ++ [p]), k0) := by
  obtain ⟨a1, a2, a3⟩ := hp
  match p, a1, a2, a3 with
  | x :: r, a1, a2, a3 =>
    obtain ⟨st1, al, c, g1, g0, g2⟩ := rl_alt (a3 x List.mem_cons_self) (Q := Q) (T := T) (s := s) (pr := [])
    obtain ⟨st', pr', al', c', f1, f2, f3⟩ := rl_alts (Q := Q) (T := T) (s := s) r [] al c st1 (fun y hy => a3 y (List.mem_cons_of_mem _ hy)) g1 (by simp at a2 ⊢; omega)
    rw [g0] at f2
    refine rl_cons (z1 := (5, 0, Q, T, s, k0)) ?_ (rl_cat (z1 := (st', 0, Q, T, s, pr', al', c')) (rl_cat g2 f3) (rl_cons (z1 := (4, 0, Q, T, (s.1, s.2 ++ [x :: r]), k0)) ?_ rfl))
    · show acc 91 _ = _
      rw [acc_91, if_pos hs]
    · rw [acc_ces f1 (by decide)]
      unfold a_cend
      rw [if_pos (by decide), f2]
      rfl
theorem rl_preds {Q : TQ} {T : TT} {x : Int × Int} : ∀ (r ps : List TP), (∀ p ∈ r, okP p) → ps.length + r.length ≤ 3 → rl (r.flatMap wPred) (4, 0, Q, T, (x, ps), k0) = some (4, 0, Q, T, (x, ps ++ r), k0) := by
  intro r
  induction r with
  | nil => intro ps _ _; simp [rl]
  | cons p r ih =>
    intro ps hp hl
    simp only [List.length_cons] at hl
    simp only [List.flatMap_cons]
    have := ih (ps ++ [p]) (fun y hy => hp y (List.mem_cons_of_mem _ hy)) (by simp; omega)
    rw [List.append_assoc] at this
    exact rl_cat (rl_pred (hp p List.mem_cons_self) (s := (x, ps)) (by dsimp only; omega)) this
theorem rl_step {s : TS} (hs : okS s) {st : Nat} {ax : Int} {Q : TQ} {T : TT} {s' : TS} {kk : TP × TA × TC} (hst : st ≤ 2) (hl : T.2.length < 8) : rl (wStep s) (st, ax, Q, T, s', kk) = some (4, 0, Q, T, s, k0) := by
  obtain ⟨x, ps⟩ := s
  exact rl_cat (rl_test hs.1 hst hl) (by have := rl_preds (Q := Q) (T := T) (x := x) ps [] hs.2.2 (by simpa using hs.2.1); simpa using this)
theorem rl_steps {Q : TQ} {b : Bool} : ∀ (r T : List TS) (s : TS), (∀ s ∈ r, okS s) → T.length + 1 + r.length ≤ 8 → ∃ T' s', T' ++ [s'] = T ++ s :: r ∧ rl ((r.map wStep).flatMap (fun y => 47 :: y)) (4, 0, Q, (b, T), s, k0) = some (4, 0, Q, (b, T'), s', k0) := by
  intro r
  induction r with
  | nil => intro T s _ _; exact ⟨T, s, rfl, rfl⟩
  | cons x r ih =>
    intro T s hx hl
    simp only [List.length_cons] at hl
    obtain ⟨T', s', f2, f3⟩ := ih (T ++ [s]) x (fun y hy => hx y (List.mem_cons_of_mem _ hy)) (by simp; omega)
    refine ⟨T', s', by rw [f2]; simp, ?_⟩
    simp only [List.map_cons, List.flatMap_cons]
    exact rl_cat (rl_cons (z1 := (1, 0, Q, (b, T ++ [s]), s0, k0)) rfl (rl_step (hx x List.mem_cons_self) (by omega) (by simp; omega))) f3
theorem rl_path {t : TT} (ht : okW t) {Q : TQ} : ∃ T s, (t.1, T ++ [s]) = t ∧ rl (wPath t) (0, 0, Q, (false, []), s0, k0) = some (4, 0, Q, (t.1, T), s, k0) := by
  obtain ⟨a1, a2, a3⟩ := ht
  obtain ⟨b, l⟩ := t
  dsimp only at a1 a2 a3
  match l, a1, a2, a3 with
  | x :: r, a1, a2, a3 =>
    obtain ⟨T', s', f2, f3⟩ := rl_steps (Q := Q) (b := b) r [] x (fun y hy => a3 y (List.mem_cons_of_mem _ hy)) (by simp at a2 ⊢; omega)
    refine ⟨T', s', by rw [f2]; rfl, ?_⟩
    cases b with
    | true =>
      show rl (47 :: (wStep x ++ (r.map wStep).flatMap (fun y => 47 :: y))) _ = _
      exact rl_cons (z1 := (1, 0, Q, (true, []), s0, k0)) rfl (rl_cat (rl_step (a3 x List.mem_cons_self) (by omega) (by simp)) f3)
    | false =>
      show rl (wStep x ++ (r.map wStep).flatMap (fun y => 47 :: y)) _ = _
      exact rl_cat (rl_step (a3 x List.mem_cons_self) (by omega) (by simp)) f3
theorem rl_paths : ∀ (r Q : TQ) (b : Bool) (T : List TS) (s : TS), (∀ t ∈ r, okW t) → Q.length + 1 + r.length ≤ 4 → ∃ Q' b' T' s', Q' ++ [(b', T' ++ [s'])] = Q ++ (b, T ++ [s]) :: r ∧ rl ((r.map wPath).flatMap (fun y => 124 :: y)) (4, 0, Q, (b, T), s, k0) = some (4, 0, Q', (b', T'), s', k0) := by
  intro r
  induction r with
  | nil => intro Q b T s _ _; exact ⟨Q, b, T, s, rfl, rfl⟩
  | cons x r ih =>
    intro Q b T s hx hl
    simp only [List.length_cons] at hl
    obtain ⟨T1, s1, g1, g2⟩ := rl_path (hx x List.mem_cons_self) (Q := Q ++ [(b, T ++ [s])])
    obtain ⟨Q', b', T', s', f2, f3⟩ := ih (Q ++ [(b, T ++ [s])]) x.1 T1 s1 (fun y hy => hx y (List.mem_cons_of_mem _ hy)) (by simp; omega)
    refine ⟨Q', b', T', s', by rw [f2, g1]; simp, ?_⟩
    simp only [List.map_cons, List.flatMap_cons]
    refine rl_cat (rl_cons (z1 := (0, 0, Q ++ [(b, T ++ [s])], (false, []), s0, k0)) ?_ g2) f3
    show acc 124 _ = _
    rw [acc_4124, if_pos (by omega)]
theorem rl_qry {q : TQ} (hq : okQ q) (h1 : 1 ≤ q.length) : ∃ z : PS, rl (wQry q) z0 = some z ∧ z.1 = 4 ∧ zQ z = q := by
  obtain ⟨a2, a3⟩ := hq
  match q, h1, a2, a3 with
  | x :: r, a1, a2, a3 =>
    obtain ⟨T1, s1, g1, g2⟩ := rl_path (a3 x List.mem_cons_self) (Q := [])
    obtain ⟨Q', b', T', s', f2, f3⟩ := rl_paths r [] x.1 T1 s1 (fun y hy => a3 y (List.mem_cons_of_mem _ hy)) (by simp at a2 ⊢; omega)
    rw [g1] at f2
    exact ⟨_, rl_cat g2 f3, rfl, f2⟩
theorem rn_rl {f : Nat → Nat} : ∀ (l : List Int) (k : Nat) (z : PS), (∀ i (c : Int), l[i]? = some c → f (k + i) = c.toNat) → rn f l.length k z = rl l z := by
  intro l
  induction l with
  | nil => intro k z _; rfl
  | cons c l ih =>
    intro k z h
    have h0 := h 0 c rfl
    simp only [List.length_cons, rn, rl]
    rw [show f k = c.toNat from h0]
    cases acc c.toNat z with
    | none => rfl
    | some z1 =>
      simp only [Option.bind_some]
      exact ih (k + 1) z1 (fun i c' hi => by rw [show k + 1 + i = k + (i + 1) by omega]; exact h (i + 1) c' hi)
/-- the signs of a written query, as numbers -/
def fW (q : TQ) (k : Nat) : Nat := ((wQry q).getD k 0).toNat
theorem flt_wQ {q : TQ} (hq : okQ q) (h1 : 1 ≤ q.length) {f : Nat → Nat} (hf : ∀ k, k < (wQry q).length → f k = fW q k) : (flt f (wQry q).length 0 z0).1 = -1 ∧ zQ (flt f (wQry q).length 0 z0).2 = q := by
  obtain ⟨z, z1, z2, z3⟩ := rl_qry hq h1
  have r : Rc f (wQry q).length 0 z0 (wQry q).length z := by
    refine ⟨(wQry q).length, by omega, Nat.le_refl _, ?_⟩
    rw [rn_rl (wQry q) 0 z0 (fun i c hi => ?_), z1]
    have := lt_of_get hi
    rw [Nat.zero_add, hf i this]
    unfold fW
    rw [List.getD_eq_getElem?_getD, hi]
    rfl
  have e1 := flt_Rc r
  have e2 : flt f ((wQry q).length - (wQry q).length) (wQry q).length z = (-1, z) := by rw [Nat.sub_self]; simp only [flt]; rw [if_pos z2]
  rw [e2, Nat.sub_zero] at e1
  rw [e1]
  exact ⟨rfl, z3⟩
/-! signs of written texts are bytes -/
def byt (l : List Int) : Prop := ∀ c ∈ l, 0 ≤ c ∧ c ≤ 127
theorem byt_app {l m : List Int} (h1 : byt l) (h2 : byt m) : byt (l ++ m) := fun c hc => by rcases List.mem_append.mp hc with q | q; exact h1 c q; exact h2 c q
theorem byt_one {c : Int} (h : 0 ≤ c ∧ c ≤ 127) : byt [c] := fun d hd => by rw [List.mem_singleton] at hd; subst hd; exact h
theorem byt_nil : byt [] := fun c hc => absurd hc (by simp)
theorem byt_fm {α : Type} {l : List α} {f : α → List Int} (h : ∀ x ∈ l, byt (f x)) : byt (l.flatMap f) := fun c hc => by
  obtain ⟨x, hx, hc⟩ := List.mem_flatMap.mp hc
  exact h x hx c hc
theorem byt_jn {z : Int} {l : List (List Int)} (hz : 0 ≤ z ∧ z ≤ 127) (h : ∀ x ∈ l, byt x) : byt (jn z l) := by
  cases l with
  | nil => exact byt_nil
  | cons x r => exact byt_app (h x List.mem_cons_self) (byt_fm (fun y hy => byt_app (l := [z]) (byt_one hz) (h y (List.mem_cons_of_mem _ hy))))
theorem byt_map {α : Type} {l : List α} {f : α → List Int} (h : ∀ x ∈ l, byt (f x)) : ∀ y ∈ l.map f, byt y := fun y hy => by
  obtain ⟨x, hx, e⟩ := List.mem_map.mp hy
  rw [← e]
  exact h x hx
theorem byt_test {x : Int × Int} (hx : okT x) : byt (wTest x) := by
  obtain ⟨x1, x2, x3, x4⟩ := hx
  unfold wTest
  refine byt_app ?_ (byt_one (by split <;> omega))
  split
  · exact byt_one (ax_bd _)
  · exact byt_nil
theorem byt_cond {c : TC} (h : okC c) : byt (wCond c) := by
  have k := okC_k h
  have hs : ∀ x ∈ c.2.2.2, okT x := by
    rcases h with q | q | q | q
    · rw [q.2.2.2]; intro x hx; simp at hx
    · rw [q.2.2]; intro x hx; simp at hx
    · rw [q.2.2.2]; intro x hx; simp at hx
    · exact q.2.2.2.2
  unfold wCond
  refine byt_app ?_ (byt_app ?_ (byt_app ?_ (byt_jn (by decide) (byt_map (fun x hx => byt_test (hs x hx))))))
  · split
    · exact byt_one (by decide)
    · exact byt_nil
  · split
    · exact byt_nil
    · exact byt_one (by split; decide; split <;> decide)
  · split
    · exact byt_one (by omega)
    · exact byt_nil
theorem byt_pred {p : TP} (h : okP p) : byt (wPred p) := byt_app (l := [91]) (byt_one (by decide)) (byt_app (byt_jn (by decide) (byt_map (fun a ha => byt_jn (by decide) (byt_map (fun c hc => byt_cond ((h.2.2 a ha).2.2 c hc)))))) (byt_one (by decide)))
theorem byt_step {s : TS} (h : okS s) : byt (wStep s) := byt_app (byt_test h.1) (byt_fm (fun p hp => byt_pred (h.2.2 p hp)))
theorem byt_path {t : TT} (h : okW t) : byt (wPath t) := by
  unfold wPath
  refine byt_app ?_ (byt_jn (by decide) (byt_map (fun s hs => byt_step (h.2.2 s hs))))
  split
  · exact byt_one (by decide)
  · exact byt_nil
theorem byt_qry {q : TQ} (h : okQ q) : byt (wQry q) := byt_jn (by decide) (byt_map (fun t ht => byt_path (h.2 t ht)))
theorem fW_lt {q : TQ} (h : okQ q) (k : Nat) : fW q k < 128 := by
  unfold fW
  rw [List.getD_eq_getElem?_getD]
  cases e : (wQry q)[k]? with
  | none => decide
  | some c => have := byt_qry h c (List.mem_of_getElem? e); simp only [Option.getD_some]; omega
