/-! ===== trees as values: ends, nodes taken out, put in, moved ===== -/
theorem enF_spec {T : Tr} {v : Nat} : ∀ (m k : Nat), tn T ≤ k + m → k ≤ tn T → k ≤ enF T v m k ∧ enF T v m k ≤ tn T ∧ (∀ j, k ≤ j → j < enF T v m k → (v : Int) ≤ tpa T j) ∧ (enF T v m k < tn T → tpa T (enF T v m k) < v) := by
  intro m
  induction m with
  | zero =>
    intro k h1 h2
    simp only [enF]
    exact ⟨Nat.le_refl _, h2, fun j j1 j2 => absurd j2 (by omega), fun h => absurd h (by omega)⟩
  | succ m ih =>
    intro k h1 h2
    simp only [enF]
    by_cases q : k < tn T ∧ (v : Int) ≤ tpa T k
    · rw [if_pos q]
      obtain ⟨a1, a2, a3, a4⟩ := ih (k + 1) (by omega) q.1
      refine ⟨by omega, a2, fun j j1 j2 => ?_, a4⟩
      by_cases z : j = k
      · rw [z]; exact q.2
      · exact a3 j (by omega) j2
    · rw [if_neg q]
      refine ⟨Nat.le_refl _, h2, fun j j1 j2 => absurd j2 (by omega), fun h => ?_⟩
      have := fun z => q ⟨h, z⟩
      omega
theorem endT_spec {T : Tr} {v : Nat} (hv : v < tn T) : v < endT T v ∧ endT T v ≤ tn T ∧ (∀ j, v < j → j < endT T v → (v : Int) ≤ tpa T j) ∧ (endT T v < tn T → tpa T (endT T v) < v) := by
  obtain ⟨a1, a2, a3, a4⟩ := enF_spec (T := T) (v := v) (tn T) (v + 1) (by omega) hv
  exact ⟨a1, a2, fun j j1 j2 => a3 j j1 j2, a4⟩
theorem okTr.o {T : Tr} (h : okTr T) : 1 ≤ tn T ∧ tn T ≤ 40 ∧ (∀ k, k < tn T → 0 ≤ tnm T k ∧ tnm T k ≤ 7 ∧ 0 ≤ tvl T k ∧ tvl T k ≤ 9) ∧ tpa T 0 = -1 ∧ (∀ k, 1 ≤ k → k < tn T → 0 ≤ tpa T k ∧ tpa T k < k) ∧ ∀ k j : Nat, 1 ≤ k → k < tn T → tpa T k < j → j < k → tpa T k ≤ tpa T j := h
/-- j lies in the tree of v just when it lies ahead of v's end -/
theorem endT_iff {T : Tr} (ho : okTr T) {v j : Nat} (hv : v < tn T) (hj : j < tn T) (h : v < j) : j < endT T v ↔ ∀ i, v < i → i ≤ j → (v : Int) ≤ tpa T i := by
  obtain ⟨e1, e2, e3, e4⟩ := endT_spec (T := T) hv
  constructor
  · intro q i i1 i2
    exact e3 i i1 (by omega)
  · intro q
    by_cases z : j < endT T v
    · exact z
    · have := q (endT T v) e1 (by omega)
      have := e4 (by omega)
      omega
theorem dl_pa {T : Tr} (ho : okTr T) {v e : Nat} (hv : v < tn T) (he : e = endT T v) {j : Nat} (hj : e ≤ j) (hjn : j < tn T) : tpa T j < v ∨ (e : Int) ≤ tpa T j := by
  obtain ⟨e1, e2, e3, e4⟩ := endT_spec (T := T) hv
  obtain ⟨o1, o2, o3, o4, o5, o6⟩ := ho.o
  subst he
  by_cases z : j = endT T v
  · left
    rw [z]
    exact e4 (by omega)
  · by_cases q : (endT T v : Int) ≤ tpa T j
    · exact Or.inr q
    · left
      have h1 := o6 j (endT T v) (by omega) hjn (by omega) (by omega)
      have h2 := e4 (by omega)
      omega
theorem dl_at1 {T : Tr} {v m k : Nat} (h : k < v) : tnm (dlT T v m) k = tnm T k ∧ tvl (dlT T v m) k = tvl T k ∧ tpa (dlT T v m) k = tpa T k := by
  refine ⟨?_, ?_, ?_⟩
  · show (if k < v then tnm T k else _) = _
    rw [if_pos h]
  · show (if k < v then tvl T k else _) = _
    rw [if_pos h]
  · show (if k < v then tpa T k else _) = _
    rw [if_pos h]
theorem dl_at2 {T : Tr} {v m k : Nat} (h : v ≤ k) : tnm (dlT T v m) k = tnm T (k + m) ∧ tvl (dlT T v m) k = tvl T (k + m) ∧ tpa (dlT T v m) k = if (v : Int) ≤ tpa T (k + m) then tpa T (k + m) - m else tpa T (k + m) := by
  refine ⟨?_, ?_, ?_⟩
  · show (if k < v then tnm T k else _) = _
    rw [if_neg (by omega)]
  · show (if k < v then tvl T k else _) = _
    rw [if_neg (by omega)]
  · show (if k < v then tpa T k else _) = _
    rw [if_neg (by omega)]
theorem dl_ok {T : Tr} (ho : okTr T) {v m : Nat} (hv1 : 1 ≤ v) (hv : v < tn T) (hm : v + m = endT T v) : okTr (dlT T v m) := by
  obtain ⟨e1, e2, e3, e4⟩ := endT_spec (T := T) hv
  have dp := fun (j : Nat) (h1 : v + m ≤ j) (h2 : j < tn T) => dl_pa ho hv hm (j := j) h1 h2
  obtain ⟨o1, o2, o3, o4, o5, o6⟩ := ho.o
  have hn : tn (dlT T v m) = tn T - m := rfl
  have P : okTr (dlT T v m) ↔ (1 ≤ tn (dlT T v m) ∧ tn (dlT T v m) ≤ 40 ∧ (∀ k, k < tn (dlT T v m) → 0 ≤ tnm (dlT T v m) k ∧ tnm (dlT T v m) k ≤ 7 ∧ 0 ≤ tvl (dlT T v m) k ∧ tvl (dlT T v m) k ≤ 9) ∧ tpa (dlT T v m) 0 = -1 ∧ (∀ k, 1 ≤ k → k < tn (dlT T v m) → 0 ≤ tpa (dlT T v m) k ∧ tpa (dlT T v m) k < k) ∧ ∀ k j : Nat, 1 ≤ k → k < tn (dlT T v m) → tpa (dlT T v m) k < j → j < k → tpa (dlT T v m) k ≤ tpa (dlT T v m) j) := Iff.rfl
  rw [P, hn]
  refine ⟨by omega, by omega, fun k hk => ?_, ?_, fun k h1 hk => ?_, fun k j h1 hk h2 h3 => ?_⟩
  · by_cases q : k < v
    · obtain ⟨a1, a2, -⟩ := dl_at1 (T := T) (m := m) q
      rw [a1, a2]
      exact o3 k (by omega)
    · obtain ⟨a1, a2, -⟩ := dl_at2 (T := T) (m := m) (show v ≤ k by omega)
      rw [a1, a2]
      exact o3 (k + m) (by omega)
  · rw [(dl_at1 (T := T) (m := m) (show 0 < v by omega)).2.2]
    exact o4
  · by_cases q : k < v
    · rw [(dl_at1 (T := T) (m := m) q).2.2]
      exact o5 k h1 (by omega)
    · rw [(dl_at2 (T := T) (m := m) (show v ≤ k by omega)).2.2]
      have := o5 (k + m) (by omega) (by omega)
      have := dp (k + m) (by omega) (by omega)
      split <;> omega
  · by_cases q : k < v
    · rw [(dl_at1 (T := T) (m := m) q).2.2] at h2 ⊢
      rw [(dl_at1 (T := T) (m := m) (show j < v by omega)).2.2]
      exact o6 k j h1 (by omega) h2 h3
    · rw [(dl_at2 (T := T) (m := m) (show v ≤ k by omega)).2.2] at h2 ⊢
      have d1 := dp (k + m) (by omega) (by omega)
      have d2 := o5 (k + m) (by omega) (by omega)
      by_cases qj : j < v
      · rw [(dl_at1 (T := T) (m := m) qj).2.2]
        by_cases z : (v : Int) ≤ tpa T (k + m)
        · rw [if_pos z] at h2 ⊢
          omega
        · rw [if_neg z] at h2 ⊢
          exact o6 (k + m) j (by omega) (by omega) h2 (by omega)
      · rw [(dl_at2 (T := T) (m := m) (show v ≤ j by omega)).2.2]
        have d3 := dp (j + m) (by omega) (by omega)
        by_cases z : (v : Int) ≤ tpa T (k + m)
        · rw [if_pos z] at h2 ⊢
          have := o6 (k + m) (j + m) (by omega) (by omega) (by omega) (by omega)
          rw [if_pos (by omega)]
          omega
        · rw [if_neg z] at h2 ⊢
          have := o6 (k + m) (j + m) (by omega) (by omega) (by omega) (by omega)
          split <;> omega
/-- m nodes put in at a place -/
def ipT (T : Tr) (at9 m : Nat) (x y z : Nat → Int) : Tr := (tn T + m, fun k => if k < at9 then tnm T k else if k < at9 + m then x (k - at9) else tnm T (k - m), fun k => if k < at9 then tvl T k else if k < at9 + m then y (k - at9) else tvl T (k - m), fun k => if k < at9 then tpa T k else if k < at9 + m then z (k - at9) else if (at9 : Int) ≤ tpa T (k - m) then tpa T (k - m) + m else tpa T (k - m))
theorem ip_at1 {T : Tr} {c m k : Nat} {x y z : Nat → Int} (h : k < c) : tnm (ipT T c m x y z) k = tnm T k ∧ tvl (ipT T c m x y z) k = tvl T k ∧ tpa (ipT T c m x y z) k = tpa T k := by
  refine ⟨?_, ?_, ?_⟩
  · show (if k < c then tnm T k else _) = _
    rw [if_pos h]
  · show (if k < c then tvl T k else _) = _
    rw [if_pos h]
  · show (if k < c then tpa T k else _) = _
    rw [if_pos h]
theorem ip_at2 {T : Tr} {c m k : Nat} {x y z : Nat → Int} (h : c ≤ k) (h2 : k < c + m) : tnm (ipT T c m x y z) k = x (k - c) ∧ tvl (ipT T c m x y z) k = y (k - c) ∧ tpa (ipT T c m x y z) k = z (k - c) := by
  refine ⟨?_, ?_, ?_⟩
  · show (if k < c then tnm T k else if k < c + m then _ else _) = _
    rw [if_neg (by omega), if_pos h2]
  · show (if k < c then tvl T k else if k < c + m then _ else _) = _
    rw [if_neg (by omega), if_pos h2]
  · show (if k < c then tpa T k else if k < c + m then _ else _) = _
    rw [if_neg (by omega), if_pos h2]
theorem ip_at3 {T : Tr} {c m k : Nat} {x y z : Nat → Int} (h : c + m ≤ k) : tnm (ipT T c m x y z) k = tnm T (k - m) ∧ tvl (ipT T c m x y z) k = tvl T (k - m) ∧ tpa (ipT T c m x y z) k = if (c : Int) ≤ tpa T (k - m) then tpa T (k - m) + m else tpa T (k - m) := by
  refine ⟨?_, ?_, ?_⟩
  · show (if k < c then tnm T k else if k < c + m then _ else _) = _
    rw [if_neg (by omega), if_neg (by omega)]
  · show (if k < c then tvl T k else if k < c + m then _ else _) = _
    rw [if_neg (by omega), if_neg (by omega)]
  · show (if k < c then tpa T k else if k < c + m then _ else _) = _
    rw [if_neg (by omega), if_neg (by omega)]
theorem ip_ok {T : Tr} (ho : okTr T) {to m c : Nat} {x y z : Nat → Int} (ht : to < tn T) (hc : c = endT T to) (hm : 1 ≤ m) (hnm : tn T + m ≤ 40) (hx : ∀ i, i < m → 0 ≤ x i ∧ x i ≤ 7 ∧ 0 ≤ y i ∧ y i ≤ 9) (hz0 : z 0 = to) (hz : ∀ i, 1 ≤ i → i < m → (c : Int) ≤ z i ∧ z i < c + i) (hp : ∀ i j : Nat, 1 ≤ i → i < m → z i < c + j → j < i → z i ≤ z j) : okTr (ipT T c m x y z) := by
  obtain ⟨e1, e2, e3, e4⟩ := endT_spec (T := T) ht
  obtain ⟨o1, o2, o3, o4, o5, o6⟩ := ho.o
  rw [← hc] at e1 e2 e3 e4
  have hn : tn (ipT T c m x y z) = tn T + m := rfl
  have key : ∀ k1, c ≤ k1 → k1 < tn T → tpa T k1 < c → tpa T k1 ≤ to := fun k1 h1 h2 h3 => by
    by_cases q : k1 = c
    · rw [q] at h2 ⊢
      have := e4 h2
      omega
    · by_cases q2 : tpa T k1 ≤ to
      · exact q2
      · have := o6 k1 c (by omega) h2 (by omega) (by omega)
        have := e4 (by omega)
        omega
  have P : okTr (ipT T c m x y z) ↔ (1 ≤ tn (ipT T c m x y z) ∧ tn (ipT T c m x y z) ≤ 40 ∧ (∀ k, k < tn (ipT T c m x y z) → 0 ≤ tnm (ipT T c m x y z) k ∧ tnm (ipT T c m x y z) k ≤ 7 ∧ 0 ≤ tvl (ipT T c m x y z) k ∧ tvl (ipT T c m x y z) k ≤ 9) ∧ tpa (ipT T c m x y z) 0 = -1 ∧ (∀ k, 1 ≤ k → k < tn (ipT T c m x y z) → 0 ≤ tpa (ipT T c m x y z) k ∧ tpa (ipT T c m x y z) k < k) ∧ ∀ k j : Nat, 1 ≤ k → k < tn (ipT T c m x y z) → tpa (ipT T c m x y z) k < j → j < k → tpa (ipT T c m x y z) k ≤ tpa (ipT T c m x y z) j) := Iff.rfl
  rw [P, hn]
  refine ⟨by omega, by omega, fun k hk => ?_, ?_, fun k h1 hk => ?_, fun k j h1 hk h2 h3 => ?_⟩
  · by_cases q : k < c
    · obtain ⟨a1, a2, -⟩ := ip_at1 (T := T) (m := m) (x := x) (y := y) (z := z) q
      rw [a1, a2]
      exact o3 k (by omega)
    · by_cases q2 : k < c + m
      · obtain ⟨a1, a2, -⟩ := ip_at2 (T := T) (m := m) (x := x) (y := y) (z := z) (show c ≤ k by omega) q2
        rw [a1, a2]
        exact hx _ (by omega)
      · obtain ⟨a1, a2, -⟩ := ip_at3 (T := T) (m := m) (x := x) (y := y) (z := z) (show c + m ≤ k by omega)
        rw [a1, a2]
        exact o3 _ (by omega)
  · rw [(ip_at1 (T := T) (m := m) (x := x) (y := y) (z := z) (show 0 < c by omega)).2.2]
    exact o4
  · by_cases q : k < c
    · rw [(ip_at1 (T := T) (m := m) (x := x) (y := y) (z := z) q).2.2]
      exact o5 k h1 (by omega)
    · by_cases q2 : k < c + m
      · rw [(ip_at2 (T := T) (m := m) (x := x) (y := y) (z := z) (show c ≤ k by omega) q2).2.2]
        by_cases q3 : k - c = 0
        · rw [q3, hz0]
          omega
        · have := hz (k - c) (by omega) (by omega)
          omega
      · rw [(ip_at3 (T := T) (m := m) (x := x) (y := y) (z := z) (show c + m ≤ k by omega)).2.2]
        have := o5 (k - m) (by omega) (by omega)
        split <;> omega
  · by_cases q : k < c
    · rw [(ip_at1 (T := T) (m := m) (x := x) (y := y) (z := z) q).2.2] at h2 ⊢
      rw [(ip_at1 (T := T) (m := m) (x := x) (y := y) (z := z) (show j < c by omega)).2.2]
      exact o6 k j h1 (by omega) h2 h3
    · by_cases q2 : k < c + m
      · rw [(ip_at2 (T := T) (m := m) (x := x) (y := y) (z := z) (show c ≤ k by omega) q2).2.2] at h2 ⊢
        by_cases q3 : k - c = 0
        · rw [q3, hz0] at h2 ⊢
          rw [(ip_at1 (T := T) (m := m) (x := x) (y := y) (z := z) (show j < c by omega)).2.2]
          exact e3 j (by omega) (by omega)
        · have := hz (k - c) (by omega) (by omega)
          rw [(ip_at2 (T := T) (m := m) (x := x) (y := y) (z := z) (show c ≤ j by omega) (by omega)).2.2]
          exact hp (k - c) (j - c) (by omega) (by omega) (by omega) (by omega)
      · rw [(ip_at3 (T := T) (m := m) (x := x) (y := y) (z := z) (show c + m ≤ k by omega)).2.2] at h2 ⊢
        have d1 := o5 (k - m) (by omega) (by omega)
        by_cases w1 : (c : Int) ≤ tpa T (k - m)
        · rw [if_pos w1] at h2 ⊢
          rw [(ip_at3 (T := T) (m := m) (x := x) (y := y) (z := z) (show c + m ≤ j by omega)).2.2]
          have := o6 (k - m) (j - m) (by omega) (by omega) (by omega) (by omega)
          rw [if_pos (by omega)]
          omega
        · rw [if_neg w1] at h2 ⊢
          have kk := key (k - m) (by omega) (by omega) (by omega)
          by_cases qj : j < c
          · rw [(ip_at1 (T := T) (m := m) (x := x) (y := y) (z := z) qj).2.2]
            exact o6 (k - m) j (by omega) (by omega) h2 (by omega)
          · by_cases qj2 : j < c + m
            · rw [(ip_at2 (T := T) (m := m) (x := x) (y := y) (z := z) (show c ≤ j by omega) qj2).2.2]
              by_cases q3 : j - c = 0
              · rw [q3, hz0]
                omega
              · have := hz (j - c) (by omega) (by omega)
                omega
            · rw [(ip_at3 (T := T) (m := m) (x := x) (y := y) (z := z) (show c + m ≤ j by omega)).2.2]
              have := o6 (k - m) (j - m) (by omega) (by omega) (by omega) (by omega)
              split <;> omega
/-- addNode -/
def addT (T : Tr) (p : Nat) (x y : Int) : Tr := ipT T (endT T p) 1 (fun _ => x) (fun _ => y) (fun _ => p)
theorem add_ok {T : Tr} (ho : okTr T) {p : Nat} {x y : Int} (hp : p < tn T) (hn : tn T < 40) (hx : 0 ≤ x ∧ x ≤ 7 ∧ 0 ≤ y ∧ y ≤ 9) : okTr (addT T p x y) :=
  ip_ok ho hp rfl (Nat.le_refl _) (by omega) (fun _ _ => hx) rfl (fun i h1 h2 => absurd h2 (by omega)) (fun i j h1 h2 => absurd h2 (by omega))
/-- moveNode -/
def mvTo (T : Tr) (v p : Nat) : Nat := if v < p then p - (endT T v - v) else p
def mvAt (T : Tr) (v p : Nat) : Nat := endT (dlT T v (endT T v - v)) (mvTo T v p)
def movT (T : Tr) (v p : Nat) : Tr := ipT (dlT T v (endT T v - v)) (mvAt T v p) (endT T v - v) (fun i => tnm T (v + i)) (fun i => tvl T (v + i)) (fun i => if i = 0 then (mvTo T v p : Int) else tpa T (v + i) - v + mvAt T v p)
theorem mov_ok {T : Tr} (ho : okTr T) {v p : Nat} (hv1 : 1 ≤ v) (hv : v < tn T) (hp : p < tn T) (hout : p < v ∨ endT T v ≤ p) : okTr (movT T v p) := by
  obtain ⟨e1, e2, e3, e4⟩ := endT_spec (T := T) hv
  obtain ⟨o1, o2, o3, o4, o5, o6⟩ := ho.o
  have od := dl_ok ho hv1 hv (m := endT T v - v) (by omega)
  have hd : tn (dlT T v (endT T v - v)) = tn T - (endT T v - v) := rfl
  have ht : mvTo T v p < tn (dlT T v (endT T v - v)) := by
    rw [hd]
    unfold mvTo
    split <;> omega
  refine ip_ok od ht rfl (by omega) (by rw [hd]; omega) (fun i hi => o3 (v + i) (by omega)) rfl (fun i h1 h2 => ?_) (fun i j h1 h2 h3 h4 => ?_)
  · have a1 := e3 (v + i) (by omega) (by omega)
    have a2 := o5 (v + i) (by omega) (by omega)
    show (mvAt T v p : Int) ≤ (if i = 0 then (mvTo T v p : Int) else tpa T (v + i) - v + mvAt T v p) ∧ (if i = 0 then (mvTo T v p : Int) else tpa T (v + i) - v + mvAt T v p) < mvAt T v p + i
    rw [if_neg (by omega)]
    omega
  · have a1 := e3 (v + i) (by omega) (by omega)
    have h3 : (if i = 0 then (mvTo T v p : Int) else tpa T (v + i) - v + mvAt T v p) < mvAt T v p + j := h3
    show (if i = 0 then (mvTo T v p : Int) else tpa T (v + i) - v + mvAt T v p) ≤ (if j = 0 then (mvTo T v p : Int) else tpa T (v + j) - v + mvAt T v p)
    rw [if_neg (by omega)] at h3 ⊢
    have hj0 : j ≠ 0 := by omega
    rw [if_neg hj0]
    have := o6 (v + i) (v + j) (by omega) (by omega) (by omega) (by omega)
    omega
