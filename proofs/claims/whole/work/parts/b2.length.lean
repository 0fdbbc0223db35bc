/-! ===== what is read is not long when it is written ===== -/
def nb9 (b : Bool) : Nat := if b = true then 1 else 0
def sT9 (l : List (Int × Int)) : Nat := (l.map (fun x => (wTest x).length + 1)).sum
def hl9 (st : Nat) (c : TC) : Nat := if st = 5 then 0 else if st = 6 then nb9 c.1 else if st = 7 then nb9 c.1 + 1 else if st = 8 then nb9 c.1 + 1 + sT9 c.2.2.2 else if st = 9 then nb9 c.1 + 2 + sT9 c.2.2.2 else (wCond c).length
def inP9 (s : TS) (pr : TP) (al : TA) : Nat := (wTest s.1).length + (s.2.flatMap wPred).length + 1 + (pr.map (fun a => (wAlt a).length + 1)).sum + (al.map (fun c => (wCond c).length + 1)).sum
def okY (k : Nat) : PS → Prop
  | (st, _, Q, T, s, pr, al, c) => (∀ t ∈ Q, wT t ≤ 97) ∧ (st ≤ 2 → wT T ≤ k + 2 * T.2.length) ∧ (st = 3 → wT T + 1 ≤ k + 2 * T.2.length) ∧ (st = 4 → wT T + (wStep s).length ≤ k + 2 * T.2.length) ∧ (5 ≤ st → wT T + inP9 s pr al + hl9 st c ≤ k + 2 * T.2.length)
theorem wStep_l (s : TS) : (wStep s).length = (wTest s.1).length + (s.2.flatMap wPred).length := by unfold wStep; rw [List.length_append]
theorem ws_le (s : TS) : ws s ≤ (wStep s).length + 3 := by unfold ws; split <;> omega
theorem wT_snoc (T : Bool × List TS) (s : TS) : wT (T.1, T.2 ++ [s]) = wT T + ws s := by
  unfold wT
  rw [List.map_append, List.sum_append]
  simp
  omega
theorem wCond_l (b : Bool) (k d : Int) (l : List (Int × Int)) : (wCond (b, k, d, l)).length = nb9 b + (if k = 0 then 0 else 1) + (if k = 0 ∨ k = 2 then 1 else 0) + (jn 47 (l.map wTest)).length := by
  unfold wCond nb9
  dsimp only
  rw [List.length_append, List.length_append, List.length_append]
  have e1 : (if b = true then [(45 : Int)] else []).length = if b = true then 1 else 0 := by split <;> rfl
  have e2 : (if k = 0 then ([] : List Int) else [if k = 1 then 36 else if k = 2 then 61 else 63]).length = if k = 0 then 0 else 1 := by split <;> rfl
  have e3 : (if k = 0 ∨ k = 2 then [(48 + d : Int)] else []).length = if k = 0 ∨ k = 2 then 1 else 0 := by split <;> rfl
  rw [e1, e2, e3]
  omega
theorem jn_T (l : List (Int × Int)) (h : l ≠ []) : (jn 47 (l.map wTest)).length + 1 = sT9 l := by
  rw [jn_len 47 _ (by simpa using h)]
  unfold sT9
  rw [List.map_map]
  rfl
theorem sT9_snoc (l : List (Int × Int)) (x : Int × Int) : sT9 (l ++ [x]) = sT9 l + ((wTest x).length + 1) := by
  unfold sT9
  rw [List.map_append, List.sum_append]
  simp
section
variable {Q : TQ} {T : Bool × List TS} {k : Nat} {z : PS}
theorem Y_tst {t ax : Int} (hQ : ∀ t ∈ Q, wT t ≤ 97) (hV : wT T + (if 1 ≤ ax then 1 else 0) ≤ k + 2 * T.2.length) (h : a_tst t ax Q T = some z) : okY (k + 1) z := by
  unfold a_tst at h
  split at h
  · cases h
  · cases h
    refine ⟨hQ, fun q => absurd q (by decide), fun q => absurd q (by decide), fun _ => ?_, fun q => absurd q (by decide)⟩
    rw [wStep_l]
    dsimp only [List.flatMap_nil]
    rw [wTest_l]
    simp only [List.flatMap_nil, List.length_nil]
    by_cases q : 1 ≤ ax
    · rw [if_pos q] at hV ⊢; omega
    · rw [if_neg q] at hV ⊢; omega
theorem Y_stp {ch : Nat} (hQ : ∀ t ∈ Q, wT t ≤ 97) (hV : wT T ≤ k + 2 * T.2.length) (h : a_stp ch Q T = some z) : okY (k + 1) z := by
  unfold a_stp at h
  split at h
  · cases h
  · split at h
    · exact Y_tst hQ (by rw [if_neg (by decide)]; omega) h
    · cases h
      exact ⟨hQ, fun q => absurd q (by decide), fun _ => by omega, fun q => absurd q (by decide), fun q => absurd q (by decide)⟩
variable {s : TS} {pr : TP} {al : TA} {c : TC}
theorem Y_dig {ch lo : Nat} {kd9 : Int} {ng : Bool} (hQ : ∀ t ∈ Q, wT t ≤ 97) (hk : kd9 = 0 ∨ kd9 = 2) (hV : wT T + inP9 s pr al + (nb9 ng + if kd9 = 0 then 0 else 1) ≤ k + 2 * T.2.length) (h : a_dig ch lo kd9 ng Q T s pr al = some z) : okY (k + 1) z := by
  unfold a_dig at h
  split at h
  · cases h
  · cases h
    refine ⟨hQ, fun q => absurd q (by decide), fun q => absurd q (by decide), fun q => absurd q (by decide), fun _ => ?_⟩
    have e : hl9 11 (ng, kd9, (ch : Int) - 48, []) = (wCond (ng, kd9, (ch : Int) - 48, [])).length := rfl
    rw [e, wCond_l, if_pos hk]
    simp only [List.map_nil, jn, List.length_nil]
    omega
theorem Y_atm {ch : Nat} {ng : Bool} (hQ : ∀ t ∈ Q, wT t ≤ 97) (hV : wT T + inP9 s pr al + nb9 ng ≤ k + 2 * T.2.length) (h : a_atm ch ng Q T s pr al = some z) : okY (k + 1) z := by
  unfold a_atm at h
  split at h
  · cases h
    refine ⟨hQ, fun q => absurd q (by decide), fun q => absurd q (by decide), fun q => absurd q (by decide), fun _ => ?_⟩
    have e : hl9 11 (ng, 1, 0, []) = (wCond (ng, 1, 0, [])).length := rfl
    rw [e, wCond_l]
    simp only [List.map_nil, jn, List.length_nil]
    rw [if_neg (by decide), if_neg (by decide)]
    omega
  · split at h
    · cases h
      refine ⟨hQ, fun q => absurd q (by decide), fun q => absurd q (by decide), fun q => absurd q (by decide), fun _ => ?_⟩
      have e : hl9 7 (ng, 0, 0, []) = nb9 ng + 1 := rfl
      rw [e]
      omega
    · split at h
      · cases h
        refine ⟨hQ, fun q => absurd q (by decide), fun q => absurd q (by decide), fun q => absurd q (by decide), fun _ => ?_⟩
        have e : hl9 8 (ng, 3, 0, []) = nb9 ng + 1 + 0 := rfl
        rw [e]
        omega
      · exact Y_dig hQ (Or.inl rfl) (by rw [if_pos rfl]; omega) h
theorem Y_stt {t ax : Int} (hQ : ∀ t ∈ Q, wT t ≤ 97) (hV : wT T + inP9 s pr al + (nb9 c.1 + 1 + sT9 c.2.2.2) + (if 1 ≤ ax then 1 else 0) ≤ k + 2 * T.2.length) (h : a_stt t ax Q T s pr al c = some z) : okY (k + 1) z := by
  unfold a_stt at h
  split at h
  · cases h
  · cases h
    refine ⟨hQ, fun q => absurd q (by decide), fun q => absurd q (by decide), fun q => absurd q (by decide), fun _ => ?_⟩
    have e : hl9 10 (c.1, 3, 0, c.2.2.2 ++ [(ax, t)]) = (wCond (c.1, 3, 0, c.2.2.2 ++ [(ax, t)])).length := rfl
    have j := jn_T (c.2.2.2 ++ [(ax, t)]) (by simp)
    rw [sT9_snoc, wTest_l] at j
    rw [e, wCond_l, if_neg (by decide), if_neg (by decide)]
    split at j <;> rename_i q <;> simp only [q, if_true, if_false] at hV <;> omega
theorem Y_cend {ch : Nat} (hQ : ∀ t ∈ Q, wT t ≤ 97) (hV : wT T + inP9 s pr al + (wCond c).length ≤ k + 2 * T.2.length) (h : a_cend ch Q T s pr al c = some z) : okY (k + 1) z := by
  have eA := wAlt_l (al := al ++ [c]) (by simp)
  rw [List.map_append, List.sum_append] at eA
  simp only [List.map_cons, List.map_nil, List.sum_cons, List.sum_nil] at eA
  unfold inP9 at hV
  unfold a_cend at h
  split at h
  · cases h
    refine ⟨hQ, fun q => absurd q (by decide), fun q => absurd q (by decide), fun _ => ?_, fun q => absurd q (by decide)⟩
    have eP := wPred_l (p := pr ++ [al ++ [c]]) (by simp)
    rw [List.map_append, List.sum_append] at eP
    simp only [List.map_cons, List.map_nil, List.sum_cons, List.sum_nil] at eP
    rw [wStep_l]
    dsimp only
    rw [List.flatMap_append, List.length_append]
    simp only [List.flatMap_cons, List.flatMap_nil, List.append_nil]
    omega
  · split at h
    · cases h
      refine ⟨hQ, fun q => absurd q (by decide), fun q => absurd q (by decide), fun q => absurd q (by decide), fun _ => ?_⟩
      have e : hl9 5 c0 = 0 := rfl
      rw [e]
      unfold inP9
      rw [List.map_append, List.sum_append]
      simp only [List.map_cons, List.map_nil, List.sum_cons, List.sum_nil]
      omega
    · split at h
      · cases h
        refine ⟨hQ, fun q => absurd q (by decide), fun q => absurd q (by decide), fun q => absurd q (by decide), fun _ => ?_⟩
        have e : hl9 5 c0 = 0 := rfl
        rw [e]
        unfold inP9
        rw [List.map_append, List.sum_append]
        simp only [List.map_cons, List.map_nil, List.sum_cons, List.sum_nil]
        omega
      · cases h
end
theorem Y_acc {ch k : Nat} {z z' : PS} (hk : k < 80) (hz : okZ z) (hy : okY k z) (h : acc ch z = some z') : okY (k + 1) z' := by
  obtain ⟨st, ax, Q, T, s, pr, al, c⟩ := z
  obtain ⟨z1, -, -, -, -, -, z7, z8, z9⟩ := hz
  obtain ⟨hQ, y1, y2, y3, y4⟩ := hy
  have hst : st = 0 ∨ st = 1 ∨ st = 2 ∨ st = 3 ∨ st = 4 ∨ st = 5 ∨ st = 6 ∨ st = 7 ∨ st = 8 ∨ st = 9 ∨ st = 10 ∨ st = 11 := by omega
  rcases hst with rfl | rfl | rfl | rfl | rfl | rfl | rfl | rfl | rfl | rfl | rfl | rfl
  · have y1 := y1 (by decide)
    have h : (if ch = 47 then some ((1, 0, Q, (true, T.2), s0, k0) : PS) else a_stp ch Q T) = some z' := h
    split at h
    · cases h
      refine ⟨hQ, fun _ => ?_, fun q => absurd q (by decide), fun q => absurd q (by decide), fun q => absurd q (by decide)⟩
      have : wT (true, T.2) ≤ wT T + 1 := by unfold wT; rw [if_pos rfl]; dsimp only; omega
      dsimp only
      omega
    · exact Y_stp hQ y1 h
  · have y1 := y1 (by decide)
    have h : (if ch = 47 then (if T.2.length = 8 then none else some ((2, 0, Q, (T.1, T.2 ++ [((3, 8), [])]), s0, k0) : PS)) else a_stp ch Q T) = some z' := h
    split at h
    · split at h
      · cases h
      · cases h
        refine ⟨hQ, fun _ => ?_, fun q => absurd q (by decide), fun q => absurd q (by decide), fun q => absurd q (by decide)⟩
        rw [wT_snoc]
        have : ws ((3, 8), []) = 3 := by decide
        dsimp only
        rw [List.length_append, List.length_singleton]
        omega
    · exact Y_stp hQ y1 h
  · exact Y_stp hQ (y1 (by decide)) h
  · exact Y_tst hQ (by have := y2 rfl; split <;> omega) h
  · have y3 := y3 rfl
    have t8 := (z8 (by decide)).1
    have h : (if ch = 47 then some ((1, 0, Q, (T.1, T.2 ++ [s]), s0, k0) : PS) else if ch = 91 ∧ s.2.length < 3 then some (5, 0, Q, T, s, k0) else if ch = 124 ∧ Q.length < 3 then some (0, 0, Q ++ [(T.1, T.2 ++ [s])], (false, []), s0, k0) else none) = some z' := h
    have w1 := wT_snoc T s
    have w2 := ws_le s
    split at h
    · cases h
      refine ⟨hQ, fun _ => ?_, fun q => absurd q (by decide), fun q => absurd q (by decide), fun q => absurd q (by decide)⟩
      dsimp only
      rw [List.length_append, List.length_singleton]
      omega
    · split at h
      · cases h
        refine ⟨hQ, fun q => absurd q (by decide), fun q => absurd q (by decide), fun q => absurd q (by decide), fun _ => ?_⟩
        have e : hl9 5 c0 = 0 := rfl
        have e2 := wStep_l s
        show wT T + inP9 s [] [] + hl9 5 c0 ≤ _
        rw [e]
        unfold inP9
        simp only [List.map_nil, List.sum_nil]
        omega
      · split at h
        · cases h
          refine ⟨mem_snoc hQ (by omega), fun _ => ?_, fun q => absurd q (by decide), fun q => absurd q (by decide), fun q => absurd q (by decide)⟩
          have : wT (false, []) = 0 := by decide
          dsimp only
          omega
        · cases h
  · have y4 := y4 (by decide)
    have e : hl9 5 c = 0 := rfl
    rw [e] at y4
    have h : (if ch = 45 then some ((6, 0, Q, T, s, pr, al, true, 0, 0, []) : PS) else a_atm ch false Q T s pr al) = some z' := h
    split at h
    · cases h
      refine ⟨hQ, fun q => absurd q (by decide), fun q => absurd q (by decide), fun q => absurd q (by decide), fun _ => ?_⟩
      have e : hl9 6 (true, 0, 0, []) = 1 := rfl
      rw [e]
      omega
    · exact Y_atm hQ (by have : nb9 false = 0 := rfl; omega) h
  · have y4 := y4 (by decide)
    have e : hl9 6 c = nb9 c.1 := rfl
    rw [e] at y4
    exact Y_atm hQ y4 h
  · have y4 := y4 (by decide)
    have e : hl9 7 c = nb9 c.1 + 1 := rfl
    rw [e] at y4
    exact Y_dig hQ (Or.inr rfl) (by rw [if_neg (by decide)]; omega) h
  · have y4 := y4 (by decide)
    have e : hl9 8 c = nb9 c.1 + 1 + sT9 c.2.2.2 := rfl
    rw [e] at y4
    have h : (if axN ch = 0 then a_stt (teN ch) 0 Q T s pr al c else some ((9, axN ch, Q, T, s, pr, al, c) : PS)) = some z' := h
    split at h
    · exact Y_stt hQ (by rw [if_neg (by decide)]; omega) h
    · cases h
      refine ⟨hQ, fun q => absurd q (by decide), fun q => absurd q (by decide), fun q => absurd q (by decide), fun _ => ?_⟩
      have e : hl9 9 c = nb9 c.1 + 2 + sT9 c.2.2.2 := rfl
      rw [e]
      omega
  · have y4 := y4 (by decide)
    have e : hl9 9 c = nb9 c.1 + 2 + sT9 c.2.2.2 := rfl
    rw [e] at y4
    exact Y_stt hQ (by split <;> omega) h
  · have y4 := y4 (by decide)
    have e : hl9 10 c = (wCond c).length := rfl
    rw [e] at y4
    have oc := (z9 (by decide)).2.2.2.2.2
    unfold okH at oc
    rw [if_neg (by decide), if_pos (by decide)] at oc
    have h : (if ch = 47 then (if c.2.2.2.length = 3 then none else some ((8, 0, Q, T, s, pr, al, c) : PS)) else a_cend ch Q T s pr al c) = some z' := h
    split at h
    · split at h
      · cases h
      · cases h
        refine ⟨hQ, fun q => absurd q (by decide), fun q => absurd q (by decide), fun q => absurd q (by decide), fun _ => ?_⟩
        have e : hl9 8 c = nb9 c.1 + 1 + sT9 c.2.2.2 := rfl
        rw [e]
        obtain ⟨b, kn, d, l⟩ := c
        have k3 : kn = 3 := oc.2 rfl
        subst k3
        have l1 : l ≠ [] := by
          rcases oc.1 with ⟨q, -⟩ | ⟨q, -⟩ | ⟨q, -⟩ | ⟨-, -, q, -⟩
          · have q : (3 : Int) = 0 := q
            omega
          · have q : (3 : Int) = 1 := q
            omega
          · have q : (3 : Int) = 2 := q
            omega
          · intro z
            have q : 1 ≤ l.length := q
            rw [z] at q
            exact absurd q (by decide)
        have j := jn_T l l1
        rw [wCond_l, if_neg (by decide), if_neg (by decide)] at y4
        dsimp only
        omega
    · exact Y_cend hQ y4 h
  · have y4 := y4 (by decide)
    have e : hl9 11 c = (wCond c).length := rfl
    rw [e] at y4
    exact Y_cend hQ y4 h
theorem flt_Y {f : Nat → Nat} (hf : ∀ k, f k < 128) : ∀ (m k : Nat) (z : PS), k + m ≤ 80 → okZ z → okY k z → (flt f m k z).1 = -1 → lnQ (zQ (flt f m k z).2) := by
  intro m
  induction m with
  | zero =>
    intro k z hk hz hy h
    obtain ⟨st, ax, Q, T, s, pr, al, c⟩ := z
    have e : flt f 0 k (st, ax, Q, T, s, pr, al, c) = if st = 4 then (-1, (st, ax, Q, T, s, pr, al, c)) else ((k : Int), (st, ax, Q, T, s, pr, al, c)) := rfl
    rw [e] at h ⊢
    split at h
    · rename_i q
      rw [if_pos q]
      obtain ⟨hQ, -, -, y3, -⟩ := hy
      have y3 := y3 q
      have t8 := (hz.2.2.2.2.2.2.2.1 (by omega)).1
      have w1 := wT_snoc T s
      have w2 := ws_le s
      intro t ht
      exact mem_snoc (P := fun t => wT t ≤ 97) hQ (by dsimp only; omega) t ht
    · exact absurd h (by dsimp only; omega)
  | succ m ih =>
    intro k z hk hz hy h
    have e : flt f (m + 1) k z = match acc (f k) z with
      | none => ((k : Int), z)
      | some z' => flt f m (k + 1) z' := rfl
    rw [e] at h ⊢
    cases q : acc (f k) z with
    | none =>
      rw [q] at h
      exact absurd h (by dsimp only; omega)
    | some z' =>
      rw [q] at h
      exact ih (k + 1) z' (by omega) (okZ_acc (hf k) hz q) (Y_acc (by omega) hz hy q) h
theorem Y_z0 : okY 0 z0 := by
  have e : wT (false, []) = 0 := by decide
  show (∀ t ∈ ([] : TQ), wT t ≤ 97) ∧ (0 ≤ 2 → wT (false, []) ≤ 0 + 2 * 0) ∧ _
  refine ⟨fun t ht => (by cases ht), fun _ => (by rw [e]; omega), fun q => absurd q (by decide), fun q => absurd q (by decide), fun q => absurd q (by decide)⟩
theorem flt_ln {f : Nat → Nat} {n : Nat} (hf : ∀ k, f k < 128) (hn : n ≤ 80) (h : (flt f n 0 z0).1 = -1) : lnQ (zQ (flt f n 0 z0).2) := flt_Y hf n 0 z0 (by omega) okZ_z0 Y_z0 h
