/-! ===== how long a path is written; no rule makes it longer ===== -/
def ws (s : TS) : Nat := (wStep s).length + 1 + (if s.1.1 = 0 then 2 else 0)
def wT (t : TT) : Nat := (if t.1 = true then 1 else 0) + (t.2.map ws).sum
theorem jn_len (z : Int) : ∀ (l : List (List Int)), l ≠ [] → (jn z l).length + 1 = (l.map (fun x => x.length + 1)).sum := by
  intro l
  cases l with
  | nil => intro h; exact absurd rfl h
  | cons x r =>
    intro _
    simp only [jn, List.length_append, List.map_cons, List.sum_cons]
    have : ∀ r : List (List Int), (r.flatMap (fun y => z :: y)).length = (r.map (fun x => x.length + 1)).sum := by
      intro r
      induction r with
      | nil => rfl
      | cons y r ih => simp only [List.flatMap_cons, List.length_append, List.length_cons, List.map_cons, List.sum_cons, ih]
    rw [this]
    omega
theorem sum_le9 {α : Type} {f g : α → Nat} : ∀ {l : List α}, (∀ x ∈ l, f x ≤ g x) → (l.map f).sum ≤ (l.map g).sum := by
  intro l
  induction l with
  | nil => intro _; simp
  | cons x r ih =>
    intro h
    have h1 := h x List.mem_cons_self
    have h2 := ih (fun y hy => h y (List.mem_cons_of_mem _ hy))
    simp only [List.map_cons, List.sum_cons]
    omega
theorem wPath_le {t : TT} (h : 1 ≤ t.2.length) : (wPath t).length + 1 ≤ wT t := by
  have e := jn_len 47 (t.2.map wStep) (by intro z; have := congrArg List.length z; simp at this; rw [this] at h; simp at h)
  rw [List.map_map] at e
  have hs : (t.2.map ((fun x => x.length + 1) ∘ wStep)).sum ≤ (t.2.map ws).sum := sum_le9 (fun s _ => by unfold ws; simp only [Function.comp]; omega)
  unfold wPath wT
  rw [List.length_append]
  have : (if t.1 = true then [(47 : Int)] else []).length = if t.1 = true then 1 else 0 := by split <;> rfl
  omega
theorem wPred_in {s : TS} {p : TP} (h : p ∈ s.2) : (wPred p).length ≤ (wStep s).length := by
  unfold wStep
  rw [List.length_append]
  have : ∀ l : List TP, p ∈ l → (wPred p).length ≤ (l.flatMap wPred).length := by
    intro l
    induction l with
    | nil => intro h; cases h
    | cons x r ih =>
      intro h
      simp only [List.flatMap_cons, List.length_append]
      rcases List.mem_cons.mp h with h | h
      · subst h; omega
      · have := ih h; omega
  have := this s.2 h
  omega
theorem sum_in {α : Type} {f : α → Nat} {l : List α} {x : α} (h : x ∈ l) : f x ≤ (l.map f).sum := by
  induction l with
  | nil => cases h
  | cons y r ih =>
    simp only [List.map_cons, List.sum_cons]
    rcases List.mem_cons.mp h with h | h
    · subst h; omega
    · have := ih h; omega
theorem wP_500 {t : TT} {s : TS} (h : wT t ≤ 97) (hs : s ∈ t.2) : ∀ p ∈ s.2, (wPred p).length ≤ 500 := by
  intro p hp
  have h1 := wPred_in hp
  have h2 := sum_in (f := ws) hs
  have h3 : (wStep s).length ≤ ws s := by unfold ws; omega
  unfold wT at h
  omega
theorem ws_fp {f : TS → TS → Option TS} (hf : ∀ s t x, f s t = some x → ws x ≤ ws s + ws t) {l l' : List TS} (h : fp f l = some l') : (l'.map ws).sum ≤ (l.map ws).sum := by
  obtain ⟨i, s, t, x, e1, e2, e3, rfl⟩ := fp_inv h
  have a1 := sum_set ws (y := x) e1
  have l2 := lt_of_get e2
  have g : (l.set i x)[i + 1]? = some t := by rw [List.getElem?_set_ne (by omega)]; exact e2
  have a2 := sum_erase ws g
  have := hf s t x e3
  omega
theorem ws_fm {f : TS → Option TS} (hf : ∀ s x, f s = some x → ws x ≤ ws s) {l l' : List TS} (h : fm f l = some l') : (l'.map ws).sum ≤ (l.map ws).sum := by
  obtain ⟨i, s, x, e1, e2, rfl⟩ := fm_inv h
  have a1 := sum_set ws (y := x) e1
  have := hf s x e2
  omega
theorem wTest_l (a t : Int) : (wTest (a, t)).length = if 1 ≤ a then 2 else 1 := by
  unfold wTest
  dsimp only
  split <;> rfl
theorem ws_f2 (s t x : TS) (h : f2 s t = some x) : ws x ≤ ws s + ws t := by
  unfold f2 at h
  split at h
  · next q =>
    cases h
    obtain ⟨q1, q2, q3⟩ := q
    obtain ⟨⟨a, e⟩, ps⟩ := t
    dsimp only at q2
    subst q2
    unfold ws wStep
    simp only [List.length_append, wTest_l]
    simp
    omega
  · cases h
theorem ws_f3 (s t x : TS) (h : f3 s t = some x) : ws x ≤ ws s + ws t := by
  unfold f3 at h
  split at h
  · cases h; omega
  · cases h
theorem ws_f4 (s t x : TS) (h : f4 s t = some x) : ws x ≤ ws s + ws t := by
  unfold f4 at h
  split at h
  · next q =>
    cases h
    obtain ⟨q1, q2, q3, q4⟩ := q
    obtain ⟨⟨a, e⟩, ps⟩ := s
    obtain ⟨u, pt⟩ := t
    dsimp only at q1 q2 q3 q4
    subst q2 q3
    have p1 : ps = [] := List.length_eq_zero_iff.mp q1
    have p2 : pt = [] := List.length_eq_zero_iff.mp q4
    subst p1 p2
    unfold ws wStep
    simp only [List.length_append, wTest_l]
    simp [wPred, wAlt, wCond, c4, jn, wTest]
  · cases h
theorem ws_f5 (s t x : TS) (h : f5 s t = some x) : ws x ≤ ws s + ws t := by
  unfold f5 at h
  split at h
  · cases h
    unfold ws wStep
    simp only [List.length_append, List.flatMap_append]
    omega
  · cases h
theorem fl_set {l : List TP} {i : Nat} {p q : TP} (h : l[i]? = some p) : ((l.set i q).flatMap wPred).length + (wPred p).length = (l.flatMap wPred).length + (wPred q).length := by
  induction l generalizing i with
  | nil => simp at h
  | cons x r ih =>
    cases i with
    | zero =>
      simp only [List.getElem?_cons_zero, Option.some.injEq] at h
      subst h
      simp only [List.set_cons_zero, List.flatMap_cons, List.length_append]
      omega
    | succ i =>
      have := ih (i := i) (by simpa using h)
      simp only [List.set_cons_succ, List.flatMap_cons, List.length_append]
      omega
theorem fl_er {l : List TP} {i : Nat} : ((l.eraseIdx i).flatMap wPred).length ≤ (l.flatMap wPred).length := by
  induction l generalizing i with
  | nil => simp
  | cons x r ih =>
    cases i with
    | zero => simp only [List.eraseIdx_cons_zero, List.flatMap_cons, List.length_append]; omega
    | succ i =>
      have := ih (i := i)
      simp only [List.eraseIdx_cons_succ, List.flatMap_cons, List.length_append]
      omega
theorem ws_preds {x : Int × Int} {ps qs : List TP} (h : (qs.flatMap wPred).length ≤ (ps.flatMap wPred).length) : ws (x, qs) ≤ ws (x, ps) := by
  unfold ws wStep
  simp only [List.length_append]
  omega
theorem er_sum {al : TA} : ((er al).map (fun c => (wCond c).length + 1)).sum ≤ (al.map (fun c => (wCond c).length + 1)).sum := by
  induction al with
  | nil => simp [er]
  | cons c r ih =>
    simp only [er]
    split
    · simp
    · simp only [List.map_cons, List.sum_cons]; omega
theorem wAlt_l {al : TA} (h : al ≠ []) : (wAlt al).length + 1 = (al.map (fun c => (wCond c).length + 1)).sum := by
  unfold wAlt
  rw [jn_len 44 (al.map wCond) (by simpa using h), List.map_map]
  rfl
theorem er_alt {al x : TA} (h : r6A al = some x) : (wAlt x).length ≤ (wAlt al).length := by
  obtain ⟨h1, h2, rfl⟩ := r6A_so9 h
  have e1 := wAlt_l (al := al) (by intro z; rw [z] at h1; simp at h1)
  have el := er_len h2
  have e2 := wAlt_l (al := er al) (by intro z; rw [z] at el; simp at el; omega)
  have := er_sum (al := al)
  omega
theorem wPred_l {p : TP} (h : p ≠ []) : (wPred p).length = (p.map (fun a => (wAlt a).length + 1)).sum + 1 := by
  unfold wPred
  have := jn_len 43 (p.map wAlt) (by simpa using h)
  rw [List.map_map] at this
  simp only [List.length_cons, List.length_append, List.length_nil]
  have e : (p.map ((fun x => x.length + 1) ∘ wAlt)).sum = (p.map (fun a => (wAlt a).length + 1)).sum := rfl
  omega
theorem ws_g6 (s x : TS) (h : g6 s = some x) : ws x ≤ ws s := by
  unfold g6 r6S at h
  obtain ⟨ps, h1, rfl⟩ := Option.map_eq_some_iff.mp h
  obtain ⟨i, p, p', e1, e2, rfl⟩ := fm_inv h1
  refine ws_preds ?_
  have := fl_set (q := p') e1
  have hp : (wPred p').length ≤ (wPred p).length := by
    unfold r6P at e2
    obtain ⟨j, b, b', e3, e4, rfl⟩ := fm_inv e2
    have ne : p ≠ [] := by intro z; rw [z] at e3; simp at e3
    have ne2 : p.set j b' ≠ [] := by intro z; have := congrArg List.length z; rw [List.length_set] at this; exact ne (List.length_eq_zero_iff.mp this)
    rw [wPred_l ne, wPred_l ne2]
    have := sum_set (fun a => (wAlt a).length + 1) (y := b') e3
    have := er_alt e4
    omega
  omega
theorem ws_g7 (s x : TS) (h : g7 s = some x) : ws x ≤ ws s := by
  unfold g7 r7S at h
  obtain ⟨ps, h1, rfl⟩ := Option.map_eq_some_iff.mp h
  obtain ⟨i, p, e1, e2, rfl⟩ := fr_inv h1
  exact ws_preds fl_er
theorem ws_g88 (s x : TS) (h : g88 s = some x) : ws x ≤ ws s := by
  unfold g88 r8S at h
  obtain ⟨ps, h1, rfl⟩ := Option.map_eq_some_iff.mp h
  obtain ⟨i, p, e1, rfl⟩ := fn2_inv h1
  exact ws_preds fl_er
theorem ws_r1 {l l' : List TS} (h : r1 l = some l') : (l'.map ws).sum ≤ (l.map ws).sum := by
  unfold r1 at h
  split at h
  · obtain ⟨i, s, e1, e2, rfl⟩ := fr_inv h
    have := sum_erase ws e1
    omega
  · cases h
def tR (n : Nat) (l : List TS) : Option (List TS) := match n with
  | 1 => r1 l
  | 2 => fp f2 l
  | 3 => fp f3 l
  | 4 => fp f4 l
  | 5 => fp f5 l
  | 6 => fm g6 l
  | 7 => fm g7 l
  | _ => fm g88 l
theorem ws_tR {n : Nat} {l l' : List TS} (h : tR n l = some l') : (l'.map ws).sum ≤ (l.map ws).sum := by
  unfold tR at h
  split at h
  · exact ws_r1 h
  · exact ws_fp ws_f2 h
  · exact ws_fp ws_f3 h
  · exact ws_fp ws_f4 h
  · exact ws_fp ws_f5 h
  · exact ws_fm ws_g6 h
  · exact ws_fm ws_g7 h
  · exact ws_fm ws_g88 h
/-- the first rule that can be used -/
theorem uR_tR {l l' : List TS} {n : Nat} (hn : 1 ≤ n ∧ n ≤ 8) (h0 : ∀ j, 1 ≤ j → j < n → tR j l = none) (h : tR n l = some l') : uR l = some ((n : Int), l') := by
  unfold uR uP
  match n, hn with
  | 1, _ => have h : r1 l = some l' := h; rw [h]; rfl
  | 2, _ => have a1 : r1 l = none := h0 1 (by omega) (by omega); have h : fp f2 l = some l' := h; rw [a1, h]; rfl
  | 3, _ => have a1 : r1 l = none := h0 1 (by omega) (by omega); have a2 : fp f2 l = none := h0 2 (by omega) (by omega); have h : fp f3 l = some l' := h; rw [a1, a2, h]; rfl
  | 4, _ => have a1 : r1 l = none := h0 1 (by omega) (by omega); have a2 : fp f2 l = none := h0 2 (by omega) (by omega); have a3 : fp f3 l = none := h0 3 (by omega) (by omega); have h : fp f4 l = some l' := h; rw [a1, a2, a3, h]; rfl
  | 5, _ => have a1 : r1 l = none := h0 1 (by omega) (by omega); have a2 : fp f2 l = none := h0 2 (by omega) (by omega); have a3 : fp f3 l = none := h0 3 (by omega) (by omega); have a4 : fp f4 l = none := h0 4 (by omega) (by omega); have h : fp f5 l = some l' := h; rw [a1, a2, a3, a4, h]; rfl
  | 6, _ => have a1 : r1 l = none := h0 1 (by omega) (by omega); have a2 : fp f2 l = none := h0 2 (by omega) (by omega); have a3 : fp f3 l = none := h0 3 (by omega) (by omega); have a4 : fp f4 l = none := h0 4 (by omega) (by omega); have a5 : fp f5 l = none := h0 5 (by omega) (by omega); have h : fm g6 l = some l' := h; rw [a1, a2, a3, a4, a5, h]; rfl
  | 7, _ => have a1 : r1 l = none := h0 1 (by omega) (by omega); have a2 : fp f2 l = none := h0 2 (by omega) (by omega); have a3 : fp f3 l = none := h0 3 (by omega) (by omega); have a4 : fp f4 l = none := h0 4 (by omega) (by omega); have a5 : fp f5 l = none := h0 5 (by omega) (by omega); have a6 : fm g6 l = none := h0 6 (by omega) (by omega); have h : fm g7 l = some l' := h; rw [a1, a2, a3, a4, a5, a6, h]; rfl
  | 8, _ => have a1 : r1 l = none := h0 1 (by omega) (by omega); have a2 : fp f2 l = none := h0 2 (by omega) (by omega); have a3 : fp f3 l = none := h0 3 (by omega) (by omega); have a4 : fp f4 l = none := h0 4 (by omega) (by omega); have a5 : fp f5 l = none := h0 5 (by omega) (by omega); have a6 : fm g6 l = none := h0 6 (by omega) (by omega); have a7 : fm g7 l = none := h0 7 (by omega) (by omega); have h : fm g88 l = some l' := h; rw [a1, a2, a3, a4, a5, a6, a7, h]; rfl
  | n + 9, hn => exact absurd hn (by omega)
theorem uR_none {l : List TS} (h0 : ∀ j, 1 ≤ j → j < 9 → tR j l = none) : uR l = none := by
  have a1 : r1 l = none := h0 1 (by omega) (by omega)
  have a2 : fp f2 l = none := h0 2 (by omega) (by omega)
  have a3 : fp f3 l = none := h0 3 (by omega) (by omega)
  have a4 : fp f4 l = none := h0 4 (by omega) (by omega)
  have a5 : fp f5 l = none := h0 5 (by omega) (by omega)
  have a6 : fm g6 l = none := h0 6 (by omega) (by omega)
  have a7 : fm g7 l = none := h0 7 (by omega) (by omega)
  have a8 : fm g88 l = none := h0 8 (by omega) (by omega)
  unfold uR uP
  rw [a1, a2, a3, a4, a5, a6, a7, a8]
  rfl
theorem uR_inv {l : List TS} {x : Int × List TS} (h : uR l = some x) : ∃ n, tR n l = some x.2 := by
  unfold uR uP at h
  cases e1 : r1 l with
  | some y => rw [e1] at h; cases h; exact ⟨1, e1⟩
  | none =>
    rw [e1] at h
    cases e2 : fp f2 l with
    | some y => rw [e2] at h; cases h; exact ⟨2, e2⟩
    | none =>
      rw [e2] at h
      cases e3 : fp f3 l with
      | some y => rw [e3] at h; cases h; exact ⟨3, e3⟩
      | none =>
        rw [e3] at h
        cases e4 : fp f4 l with
        | some y => rw [e4] at h; cases h; exact ⟨4, e4⟩
        | none =>
          rw [e4] at h
          cases e5 : fp f5 l with
          | some y => rw [e5] at h; cases h; exact ⟨5, e5⟩
          | none =>
            rw [e5] at h
            cases e6 : fm g6 l with
            | some y => rw [e6] at h; cases h; exact ⟨6, e6⟩
            | none =>
              rw [e6] at h
              cases e7 : fm g7 l with
              | some y => rw [e7] at h; cases h; exact ⟨7, e7⟩
              | none =>
                rw [e7] at h
                cases e8 : fm g88 l with
                | some y => rw [e8] at h; cases h; exact ⟨8, e8⟩
                | none => rw [e8] at h; cases h
theorem ws_rwF : ∀ (f : Nat) (l : List TS), (((rwF f l).2).map ws).sum ≤ (l.map ws).sum := by
  intro f
  induction f with
  | zero => intro l; exact Nat.le_refl _
  | succ f ih =>
    intro l
    simp only [rwF]
    cases e : uR l with
    | none => exact Nat.le_refl _
    | some x =>
      obtain ⟨n, hn⟩ := uR_inv e
      have := ws_tR hn
      have := ih x.2
      dsimp only
      omega
theorem wT_rwT (t : TT) : wT (rwT t) ≤ wT t := by
  unfold wT rwT
  have := ws_rwF 1000 t.2
  dsimp only
  omega
