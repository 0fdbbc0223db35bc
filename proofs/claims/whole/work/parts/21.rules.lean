/-! ===== Step: like, rules 6 to 8 ===== -/
def so : Option TC → Int
  | none => 0
  | some c => pk c
theorem slotv_so (ps : List TP) (k : Nat) : slotv ps k = so (cAt ps k) := by rw [slotv_at]; cases cAt ps k <;> rfl
theorem slotv_cong {ps qs : List TP} {k m : Nat} (h : cAt ps k = cAt qs m) : slotv ps k = slotv qs m := by rw [slotv_so, slotv_so, h]
theorem slot_eq {ps qs : List TP} (hp : ∀ p ∈ ps, okP p) (hq : ∀ p ∈ qs, okP p) {k m : Nat} (h : slotv ps k = slotv qs m) : cAt ps k = cAt qs m := by
  rw [slotv_so, slotv_so] at h
  cases h1 : cAt ps k with
  | none =>
    cases h2 : cAt qs m with
    | none => rfl
    | some c => rw [h1, h2] at h; have := pk_bd (cAt_ok hq h2).1; simp only [so] at h; omega
  | some c =>
    cases h2 : cAt qs m with
    | none => rw [h1, h2] at h; have := pk_bd (cAt_ok hp h1).1; simp only [so] at h; omega
    | some e => rw [h1, h2] at h; rw [pk_inj (cAt_ok hp h1).1 (cAt_ok hq h2).1 h]
def aAt (p : TP) (k : Nat) : Option TC := (p[k / 3]?).bind fun a => a[k % 3]?
theorem aAt_cons (a : TA) (p : TP) (k : Nat) : aAt (a :: p) k = if k < 3 then a[k]? else aAt p (k - 3) := by
  unfold aAt
  by_cases h : k < 3
  · rw [if_pos h, show k / 3 = 0 by omega, show k % 3 = k by omega]
    rfl
  · rw [if_neg h, show k / 3 = (k - 3) / 3 + 1 by omega, List.getElem?_cons_succ, show k % 3 = (k - 3) % 3 by omega]
theorem a_ext {a b : TA} (ha : a.length ≤ 3) (hb : b.length ≤ 3) (h : ∀ k, k < 3 → a[k]? = b[k]?) : a = b := by
  apply List.ext_getElem?
  intro k
  by_cases hk : k < 3
  · exact h k hk
  · rw [List.getElem?_eq_none (by omega), List.getElem?_eq_none (by omega)]
theorem a_hd {a : TA} (h : okA a) : a[0]? ≠ none := by
  have := h.1
  intro z
  rw [List.getElem?_eq_none_iff] at z
  omega
theorem p_ext : ∀ (p q : TP) (n : Nat), (∀ a ∈ p, okA a) → (∀ a ∈ q, okA a) → p.length ≤ n → q.length ≤ n → (∀ k, k < 3 * n → aAt p k = aAt q k) → p = q := by
  intro p
  induction p with
  | nil =>
    intro q n _ h2 _ l2 h
    cases q with
    | nil => rfl
    | cons b s =>
      simp only [List.length_cons] at l2
      have := h 0 (by omega)
      rw [aAt_cons, if_pos (by omega)] at this
      exact absurd this.symm (a_hd (h2 b List.mem_cons_self))
  | cons a r ih =>
    intro q n h1 h2 l1 l2 h
    simp only [List.length_cons] at l1
    cases q with
    | nil =>
      have := h 0 (by omega)
      rw [aAt_cons, if_pos (by omega)] at this
      exact absurd this (a_hd (h1 a List.mem_cons_self))
    | cons b s =>
      simp only [List.length_cons] at l2
      have e1 : a = b := a_ext (h1 a List.mem_cons_self).2.1 (h2 b List.mem_cons_self).2.1 (fun k hk => by
        have := h k (by omega)
        rw [aAt_cons, aAt_cons, if_pos hk, if_pos hk] at this
        exact this)
      have e2 : r = s := ih s (n - 1) (fun x hx => h1 x (List.mem_cons_of_mem _ hx)) (fun x hx => h2 x (List.mem_cons_of_mem _ hx)) (by omega) (by omega) (fun k hk => by
        have := h (k + 3) (by omega)
        rw [aAt_cons, aAt_cons, if_neg (by omega), if_neg (by omega), Nat.add_sub_cancel] at this
        exact this)
      rw [e1, e2]
theorem p_hd {p : TP} (h : okP p) : aAt p 0 ≠ none := by
  cases p with
  | nil => have := h.1; simp at this
  | cons a r => rw [aAt_cons, if_pos (by omega)]; exact a_hd (h.2.2 a List.mem_cons_self)
theorem cAt_cons' (p : TP) (ps : List TP) (k : Nat) : cAt (p :: ps) k = if k < 9 then aAt p k else cAt ps (k - 9) := cAt_cons p ps k
theorem s_ext : ∀ (p q : List TP) (n : Nat), (∀ a ∈ p, okP a) → (∀ a ∈ q, okP a) → p.length ≤ n → q.length ≤ n → (∀ k, k < 9 * n → cAt p k = cAt q k) → p = q := by
  intro p
  induction p with
  | nil =>
    intro q n _ h2 _ l2 h
    cases q with
    | nil => rfl
    | cons b s =>
      simp only [List.length_cons] at l2
      have := h 0 (by omega)
      rw [cAt_cons', if_pos (by omega)] at this
      exact absurd this.symm (p_hd (h2 b List.mem_cons_self))
  | cons a r ih =>
    intro q n h1 h2 l1 l2 h
    simp only [List.length_cons] at l1
    cases q with
    | nil =>
      have := h 0 (by omega)
      rw [cAt_cons', if_pos (by omega)] at this
      exact absurd this (p_hd (h1 a List.mem_cons_self))
    | cons b s =>
      simp only [List.length_cons] at l2
      have oa := h1 a List.mem_cons_self
      have ob := h2 b List.mem_cons_self
      have e1 : a = b := p_ext a b 3 oa.2.2 ob.2.2 oa.2.1 ob.2.1 (fun k hk => by
        have := h k (by omega)
        rw [cAt_cons', cAt_cons', if_pos hk, if_pos hk] at this
        exact this)
      have e2 : r = s := ih s (n - 1) (fun x hx => h1 x (List.mem_cons_of_mem _ hx)) (fun x hx => h2 x (List.mem_cons_of_mem _ hx)) (by omega) (by omega) (fun k hk => by
        have := h (k + 9) (by omega)
        rw [cAt_cons', cAt_cons', if_neg (by omega), if_neg (by omega), Nat.add_sub_cancel] at this
        exact this)
      rw [e1, e2]
def t_dL : List TP → List TP → Bool
  | [], [] => true
  | a :: r, b :: s => t_dP a b && t_dL r s
  | _, _ => false
theorem t_dL_iff : ∀ (p q : List TP), t_dL p q = true ↔ p = q := by
  intro p
  induction p with
  | nil => intro q; cases q <;> simp [t_dL]
  | cons a r ih =>
    intro q
    cases q with
    | nil => simp [t_dL]
    | cons b s => simp [t_dL, t_dP_iff, ih]
def t_dS (s t : TS) : Bool := decide (s.1 = t.1) && t_dL s.2 t.2
theorem t_dS_iff (s t : TS) : t_dS s t = true ↔ s = t := by
  obtain ⟨x, p⟩ := s
  obtain ⟨y, q⟩ := t
  simp [t_dS, t_dL_iff]
theorem l_like {γ : GG} {h : AH} {a b : Nat} {s t : TS} (hS : isS h a s) (hs : okS s) (hB : isS h b t) (ht : okS t) (hst : s.1 = t.1) : ∀ (m k : Nat), k + m = 27 → (∀ j, j < k → slotv s.2 j = slotv t.2 j) → AW γ mX8_isLike 0 0 0 37 [(0, vr (some a)), (1, vr (some b)), (2, vi (k : Int))] [] h (rV (vi (if t_dS s t = true then 1 else 0)) h) := by
  obtain ⟨⟨hk, hr, hk1⟩, h0, h1, h2, h3⟩ := hS
  obtain ⟨⟨hkb, hrb, hk1b⟩, h0b, h1b, h2b, h3b⟩ := hB
  intro m
  induction m with
  | zero =>
    intro k hkm hj
    have e : s = t := Prod.ext hst (s_ext s.2 t.2 3 hs.2.2 ht.2.2 hs.2.1 ht.2.1 (fun j hj2 => slot_eq hs.2.2 ht.2.2 (hj j (by omega))))
    rw [if_pos ((t_dS_iff s t).mpr e)]
    refine aw_iload_n dX8_isLike_37 rfl ?_
    refine aw_bipush dX8_isLike_38 rfl ?_
    refine aw_ic_ge (tgt := 66) dX8_isLike_40 rfl (by omega) (by omega) (fun c40 => ?_) (fun c40 => ?_)
    · refine aw_iconst dX8_isLike_66 ?_
      exact aw_zreturn dX8_isLike_67 rfl (by omega) (Or.inl rfl) ⟨rfl, rfl⟩
    · exact absurd c40 (by omega)
  | succ m ih =>
    intro k hkm hj
    have b1 := slotv_bd hs.2.2 k
    have b2 := slotv_bd ht.2.2 k
    by_cases hp : slotv s.2 k = slotv t.2 k
    · have ih' := ih (k + 1) (by omega) (fun j hj2 => by
        by_cases q : j = k
        · rw [q]; exact hp
        · exact hj j (by omega))
      refine aw_iload_n dX8_isLike_37 rfl ?_
      refine aw_bipush dX8_isLike_38 rfl ?_
      refine aw_ic_ge (tgt := 66) dX8_isLike_40 rfl (by omega) (by omega) (fun c40 => ?_) (fun c40 => ?_)
      · exact absurd c40 (by omega)
      · refine aw_aload_n dX8_isLike_43 rfl ?_
        refine aw_getr' (j := 3) dX8_isLike_44 fX8_21 rfl (by assumption) rfl (by assumption) ?_
        refine aw_iload_n dX8_isLike_47 rfl ?_
        refine aw_iald' dX8_isLike_48 (by assumption) (by omega) (by first | decide | omega) (h3 k (by omega)) ?_
        refine aw_aload_n dX8_isLike_49 rfl ?_
        refine aw_getr' (j := 3) dX8_isLike_50 fX8_21 rfl (by assumption) rfl (by assumption) ?_
        refine aw_iload_n dX8_isLike_53 rfl ?_
        refine aw_iald' dX8_isLike_54 (by assumption) (by omega) (by first | decide | omega) (h3b k (by omega)) ?_
        refine aw_ic_eq (tgt := 60) dX8_isLike_55 rfl (by omega) (by omega) (fun c55 => ?_) (fun c55 => ?_)
        · refine aw_iinc (k9 := 2) (ls1 := [(2, _), (0, _), (1, _)]) dX8_isLike_60 rfl (by decide) rfl ?_
          refine aw_goto (tgt := 37) dX8_isLike_63 rfl ?_
          refine aw_sub [1, 2, 0] rfl ?_
          exact ih'
        · exact absurd c55 (by omega)
    · rw [if_neg (fun z => hp (by rw [(t_dS_iff s t).mp z]))]
      refine aw_iload_n dX8_isLike_37 rfl ?_
      refine aw_bipush dX8_isLike_38 rfl ?_
      refine aw_ic_ge (tgt := 66) dX8_isLike_40 rfl (by omega) (by omega) (fun c40 => ?_) (fun c40 => ?_)
      · exact absurd c40 (by omega)
      · refine aw_aload_n dX8_isLike_43 rfl ?_
        refine aw_getr' (j := 3) dX8_isLike_44 fX8_21 rfl (by assumption) rfl (by assumption) ?_
        refine aw_iload_n dX8_isLike_47 rfl ?_
        refine aw_iald' dX8_isLike_48 (by assumption) (by omega) (by first | decide | omega) (h3 k (by omega)) ?_
        refine aw_aload_n dX8_isLike_49 rfl ?_
        refine aw_getr' (j := 3) dX8_isLike_50 fX8_21 rfl (by assumption) rfl (by assumption) ?_
        refine aw_iload_n dX8_isLike_53 rfl ?_
        refine aw_iald' dX8_isLike_54 (by assumption) (by omega) (by first | decide | omega) (h3b k (by omega)) ?_
        refine aw_ic_eq (tgt := 60) dX8_isLike_55 rfl (by omega) (by omega) (fun c55 => ?_) (fun c55 => ?_)
        · exact absurd c55 (by omega)
        · refine aw_iconst dX8_isLike_58 ?_
          exact aw_zreturn dX8_isLike_59 rfl (by omega) (Or.inl rfl) ⟨rfl, rfl⟩
theorem c_slike {γ : GG} {h : AH} {a b : Nat} {s t : TS} (hS : isS h a s) (hs : okS s) (hB : isS h b t) (ht : okS t) : Call γ mX8_isLike 0 0 0 [vr (some a), vr (some b)] h (rV (vi (if t_dS s t = true then 1 else 0)) h) := by
  have hS0 := hS
  have hB0 := hB
  obtain ⟨⟨hk, hr, hk1⟩, h0, h1, h2, h3⟩ := hS
  obtain ⟨⟨hkb, hrb, hk1b⟩, h0b, h1b, h2b, h3b⟩ := hB
  have ls := hs.2.1
  have lt := ht.2.1
  obtain ⟨r1, r2, r3, r4⟩ := hs.1
  obtain ⟨r5, r6, r7, r8⟩ := ht.1
  by_cases hq : s.1.1 = t.1.1 ∧ s.1.2 = t.1.2 ∧ s.2.length = t.2.length
  · have hst : s.1 = t.1 := Prod.ext hq.1 hq.2.1
    refine Call.of (ls := [(0, vr (some a)), (1, vr (some b))]) vX8_isLike.1 (Nat.le_of_ble_eq_true rfl) rfl ?_
    refine aw_aload_n dX8_isLike_0 rfl ?_
    refine aw_geti' (j := 0) dX8_isLike_1 fX8_9 rfl (by assumption) rfl (by assumption) ?_
    refine aw_aload_n dX8_isLike_4 rfl ?_
    refine aw_geti' (j := 0) dX8_isLike_5 fX8_9 rfl (by assumption) rfl (by assumption) ?_
    refine aw_ic_ne (tgt := 33) dX8_isLike_8 rfl (by omega) (by omega) (fun c8 => ?_) (fun c8 => ?_)
    · exact absurd c8 (by omega)
    · refine aw_aload_n dX8_isLike_11 rfl ?_
      refine aw_geti' (j := 1) dX8_isLike_12 fX8_15 rfl (by assumption) rfl (by assumption) ?_
      refine aw_aload_n dX8_isLike_15 rfl ?_
      refine aw_geti' (j := 1) dX8_isLike_16 fX8_15 rfl (by assumption) rfl (by assumption) ?_
      refine aw_ic_ne (tgt := 33) dX8_isLike_19 rfl (by omega) (by omega) (fun c19 => ?_) (fun c19 => ?_)
      · exact absurd c19 (by omega)
      · refine aw_aload_n dX8_isLike_22 rfl ?_
        refine aw_geti' (j := 2) dX8_isLike_23 fX8_18 rfl (by assumption) rfl (by assumption) ?_
        refine aw_aload_n dX8_isLike_26 rfl ?_
        refine aw_geti' (j := 2) dX8_isLike_27 fX8_18 rfl (by assumption) rfl (by assumption) ?_
        refine aw_ic_eq (tgt := 35) dX8_isLike_30 rfl (by omega) (by omega) (fun c30 => ?_) (fun c30 => ?_)
        · refine aw_iconst dX8_isLike_35 ?_
          refine aw_istore_n (ls1 := [(2, _), (0, _), (1, _)]) dX8_isLike_36 (by decide) rfl ?_
          refine aw_sub [1, 2, 0] rfl ?_
          exact l_like hS0 hs hB0 ht hst 27 0 (by omega) (fun j hj => by omega)
        · exact absurd c30 (by omega)
  · rw [if_neg (fun z => hq (by rw [(t_dS_iff s t).mp z]; exact ⟨rfl, rfl, rfl⟩))]
    refine Call.of (ls := [(0, vr (some a)), (1, vr (some b))]) vX8_isLike.1 (Nat.le_of_ble_eq_true rfl) rfl ?_
    refine aw_aload_n dX8_isLike_0 rfl ?_
    refine aw_geti' (j := 0) dX8_isLike_1 fX8_9 rfl (by assumption) rfl (by assumption) ?_
    refine aw_aload_n dX8_isLike_4 rfl ?_
    refine aw_geti' (j := 0) dX8_isLike_5 fX8_9 rfl (by assumption) rfl (by assumption) ?_
    refine aw_ic_ne (tgt := 33) dX8_isLike_8 rfl (by omega) (by omega) (fun c8 => ?_) (fun c8 => ?_)
    · refine aw_iconst dX8_isLike_33 ?_
      exact aw_zreturn dX8_isLike_34 rfl (by omega) (Or.inl rfl) ⟨rfl, rfl⟩
    · refine aw_aload_n dX8_isLike_11 rfl ?_
      refine aw_geti' (j := 1) dX8_isLike_12 fX8_15 rfl (by assumption) rfl (by assumption) ?_
      refine aw_aload_n dX8_isLike_15 rfl ?_
      refine aw_geti' (j := 1) dX8_isLike_16 fX8_15 rfl (by assumption) rfl (by assumption) ?_
      refine aw_ic_ne (tgt := 33) dX8_isLike_19 rfl (by omega) (by omega) (fun c19 => ?_) (fun c19 => ?_)
      · refine aw_iconst dX8_isLike_33 ?_
        exact aw_zreturn dX8_isLike_34 rfl (by omega) (Or.inl rfl) ⟨rfl, rfl⟩
      · refine aw_aload_n dX8_isLike_22 rfl ?_
        refine aw_geti' (j := 2) dX8_isLike_23 fX8_18 rfl (by assumption) rfl (by assumption) ?_
        refine aw_aload_n dX8_isLike_26 rfl ?_
        refine aw_geti' (j := 2) dX8_isLike_27 fX8_18 rfl (by assumption) rfl (by assumption) ?_
        refine aw_ic_eq (tgt := 35) dX8_isLike_30 rfl (by omega) (by omega) (fun c30 => ?_) (fun c30 => ?_)
        · exact absurd c30 (by omega)
        · refine aw_iconst dX8_isLike_33 ?_
          exact aw_zreturn dX8_isLike_34 rfl (by omega) (Or.inl rfl) ⟨rfl, rfl⟩
/-! the first element that changes; that goes -/
def fm {α : Type} (f : α → Option α) : List α → Option (List α)
  | [] => none
  | x :: r => match f x with
    | some y => some (y :: r)
    | none => (fm f r).map (x :: ·)
theorem fm_none {α : Type} {f : α → Option α} : ∀ {l : List α}, (∀ x ∈ l, f x = none) → fm f l = none := by
  intro l
  induction l with
  | nil => intro _; rfl
  | cons x r ih =>
    intro h
    simp only [fm, h x List.mem_cons_self]
    rw [ih (fun y hy => h y (List.mem_cons_of_mem _ hy))]
    rfl
theorem fm_at {α : Type} {f : α → Option α} : ∀ {l : List α} {i : Nat} {x y : α}, l[i]? = some x → f x = some y → (∀ j z, j < i → l[j]? = some z → f z = none) → fm f l = some (l.set i y) := by
  intro l
  induction l with
  | nil => intro i x y h; simp at h
  | cons b r ih =>
    intro i x y h hf hn
    cases i with
    | zero =>
      simp only [List.getElem?_cons_zero, Option.some.injEq] at h
      subst h
      simp only [fm, hf, List.set_cons_zero]
    | succ i =>
      have h0 := hn 0 b (by omega) rfl
      simp only [fm, h0]
      rw [ih (by simpa using h) hf (fun j z hj hz => hn (j + 1) z (by omega) (by simpa using hz))]
      rfl
def fr {α : Type} (f : α → Bool) : List α → Option (List α)
  | [] => none
  | x :: r => if f x = true then some r else (fr f r).map (x :: ·)
theorem fr_none {α : Type} {f : α → Bool} : ∀ {l : List α}, (∀ x ∈ l, f x = false) → fr f l = none := by
  intro l
  induction l with
  | nil => intro _; rfl
  | cons x r ih =>
    intro h
    simp only [fr]
    rw [if_neg (by rw [h x List.mem_cons_self]; decide), ih (fun y hy => h y (List.mem_cons_of_mem _ hy))]
    rfl
theorem fr_at {α : Type} {f : α → Bool} : ∀ {l : List α} {i : Nat} {x : α}, l[i]? = some x → f x = true → (∀ j z, j < i → l[j]? = some z → f z = false) → fr f l = some (l.eraseIdx i) := by
  intro l
  induction l with
  | nil => intro i x h; simp at h
  | cons b r ih =>
    intro i x h hf hn
    cases i with
    | zero =>
      simp only [List.getElem?_cons_zero, Option.some.injEq] at h
      subst h
      simp only [fr, hf, if_true, List.eraseIdx_cons_zero]
    | succ i =>
      have h0 := hn 0 b (by omega) rfl
      simp only [fr]
      rw [if_neg (by rw [h0]; decide), ih (by simpa using h) hf (fun j z hj hz => hn (j + 1) z (by omega) (by simpa using hz))]
      rfl
/-- of two neighbours the second goes -/
def fn2 {α : Type} (g : α → α → Bool) : List α → Option (List α)
  | x :: y :: r => if g x y = true then some (x :: r) else (fn2 g (y :: r)).map (x :: ·)
  | _ => none
theorem fn2_none {α : Type} {g : α → α → Bool} : ∀ {l : List α}, (∀ j x y, l[j]? = some x → l[j + 1]? = some y → g x y = false) → fn2 g l = none := by
  intro l
  induction l with
  | nil => intro _; rfl
  | cons x r ih =>
    intro h
    cases r with
    | nil => rfl
    | cons y r =>
      simp only [fn2]
      rw [if_neg (by rw [h 0 x y rfl rfl]; decide), ih (fun j p q hp hq => h (j + 1) p q (by simpa using hp) (by simpa using hq))]
      rfl
theorem fn2_at {α : Type} {g : α → α → Bool} : ∀ {l : List α} {i : Nat} {x y : α}, l[i]? = some x → l[i + 1]? = some y → g x y = true → (∀ j p q, j < i → l[j]? = some p → l[j + 1]? = some q → g p q = false) → fn2 g l = some (l.eraseIdx (i + 1)) := by
  intro l
  induction l with
  | nil => intro i x y h; simp at h
  | cons b r ih =>
    intro i x y h h2 hf hn
    cases r with
    | nil => simp at h2
    | cons d r =>
      cases i with
      | zero =>
        simp only [List.getElem?_cons_zero, Option.some.injEq] at h
        simp only [Nat.zero_add, List.getElem?_cons_succ, List.getElem?_cons_zero, Option.some.injEq] at h2
        subst h
        subst h2
        simp only [fn2, hf, if_true]
        rfl
      | succ i =>
        have h0 := hn 0 b d (by omega) rfl rfl
        simp only [fn2]
        rw [if_neg (by rw [h0]; decide), ih (by simpa using h) (by simpa using h2) hf (fun j p q hj hp hq => hn (j + 1) p q (by omega) (by simpa using hp) (by simpa using hq))]
        rfl
def sureC : TC := (false, 3, 0, [(1, 8)])
theorem pk_sure : pk sureC = 8276 := by decide
def er : TA → TA
  | [] => []
  | c :: r => if c = sureC then r else c :: er r
def r6A (a : TA) : Option TA := if 1 < a.length ∧ sureC ∈ a then some (er a) else none
def r6P (p : TP) : Option TP := fm r6A p
def r6S (ps : List TP) : Option (List TP) := fm r6P ps
def r7S (ps : List TP) : Option (List TP) := fr (fun p => decide ([sureC] ∈ p)) ps
def r8S (ps : List TP) : Option (List TP) := fn2 (fun p q => t_dP p q && !isPosP q) ps
theorem er_at : ∀ {a : TA} {c : Nat}, a[c]? = some sureC → (∀ j, j < c → a[j]? ≠ some sureC) → er a = a.eraseIdx c := by
  intro a
  induction a with
  | nil => intro c h; simp at h
  | cons x r ih =>
    intro c h hn
    cases c with
    | zero =>
      simp only [List.getElem?_cons_zero, Option.some.injEq] at h
      simp only [er, h, if_true, List.eraseIdx_cons_zero]
    | succ c =>
      have h0 : x ≠ sureC := fun z => hn 0 (by omega) (by simp [z])
      simp only [er, if_neg h0, List.eraseIdx_cons_succ]
      rw [ih (by simpa using h) (fun j hj => by have := hn (j + 1) (by omega); simpa using this)]
