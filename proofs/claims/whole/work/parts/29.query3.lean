/-! ===== Query: whether positional; writing ===== -/
theorem any_at {α : Type} {f : α → Bool} {l : List α} {k : Nat} {x : α} (h : l[k]? = some x) (hf : f x = true) : l.any f = true := List.any_eq_true.mpr ⟨x, List.mem_of_getElem? h, hf⟩
theorem any_no {α : Type} {f : α → Bool} {l : List α} (h : ∀ (k : Nat) (x : α), l[k]? = some x → f x = false) : l.any f = false := by
  cases hz : l.any f with
  | false => rfl
  | true =>
    obtain ⟨x, hx, z⟩ := List.any_eq_true.mp hz
    obtain ⟨k, hk⟩ := List.getElem?_of_mem hx
    rw [h k x hk] at z
    cases z
def isPosQ (q : TQ) : Bool := q.any isPosT
theorem i_qpos {γ : GG} {h : AH} {a : Nat} {π : Nat → Nat} {ρ : Nat → Nat → Nat} {q : TQ} {t : TT} {k : Nat} (hQ : isQ h a π ρ q) (ht : q[k]? = some t) (ho : okQ q) (kk : isPosT t = false → AW γ mX5_isPositional 2 0 0 50 [(0, vr (some a)), (1, vi (k : Int))] [] h (rV (vi (if isPosQ q = true then 1 else 0)) h)) : ∀ (m j : Nat), j + m = t.2.length → (∀ i s, i < j → t.2[i]? = some s → isPosS s = false) → AW γ mX5_isPositional 2 0 0 12 [(0, vr (some a)), (1, vi (k : Int)), (2, vi (j : Int))] [] h (rV (vi (if isPosQ q = true then 1 else 0)) h) := by
  obtain ⟨⟨hk, hr, hk1, hπ, hrf, hst⟩, h0, hl4, hss⟩ := hQ
  have lk := (List.getElem?_eq_some_iff.mp ht).1
  have hP := hss k t ht
  have l8 := hP.2.2.2.1
  have s1 := hP.1.1
  intro m
  induction m with
  | zero =>
    intro j hjm hj
    have kk' := kk (any_no (fun i s hs => hj i s (by have := (List.getElem?_eq_some_iff.mp hs).1; omega) hs))
    refine aw_iload_n dX5_isPositional_12 rfl ?_
    refine aw_aload_n dX5_isPositional_13 rfl ?_
    refine aw_getr' (j := 1) dX5_isPositional_14 fX5_17 rfl (by assumption) rfl (by assumption) ?_
    refine aw_iload_n dX5_isPositional_17 rfl ?_
    refine aw_aald4' dX5_isPositional_18 (by assumption) (by omega) (by first | decide | omega) (hrf k (by omega)) ?_
    refine aw_geti' (j := 1) dX5_isPositional_19 fX5_43 rfl (by assumption) rfl hP.2.2.1 ?_
    refine aw_ic_ge (tgt := 50) dX5_isPositional_22 rfl (by omega) (by omega) (fun c22 => ?_) (fun c22 => ?_)
    · refine aw_sub [0, 1] rfl ?_
      exact kk'
    · exact absurd c22 (by omega)
  | succ m ih =>
    intro j hjm hj
    obtain ⟨s, hs⟩ : ∃ s, t.2[j]? = some s := ⟨_, List.getElem?_eq_getElem (by omega)⟩
    have hS := hP.2.2.2.2 j s hs
    have s2 := hS.1.1
    have os := (ho.2 t (List.mem_of_getElem? ht)).2.2 s (List.mem_of_getElem? hs)
    have K := c_sisPos (γ := γ) hS os
    by_cases q9 : isPosS s = true
    · rw [if_pos q9] at K
      rw [if_pos (show isPosQ q = true from any_at ht (show isPosT t = true from any_at hs q9))]
      refine aw_iload_n dX5_isPositional_12 rfl ?_
      refine aw_aload_n dX5_isPositional_13 rfl ?_
      refine aw_getr' (j := 1) dX5_isPositional_14 fX5_17 rfl (by assumption) rfl (by assumption) ?_
      refine aw_iload_n dX5_isPositional_17 rfl ?_
      refine aw_aald4' dX5_isPositional_18 (by assumption) (by omega) (by first | decide | omega) (hrf k (by omega)) ?_
      refine aw_geti' (j := 1) dX5_isPositional_19 fX5_43 rfl (by assumption) rfl hP.2.2.1 ?_
      refine aw_ic_ge (tgt := 50) dX5_isPositional_22 rfl (by omega) (by omega) (fun c22 => ?_) (fun c22 => ?_)
      · exact absurd c22 (by omega)
      · refine aw_aload_n dX5_isPositional_25 rfl ?_
        refine aw_getr' (j := 1) dX5_isPositional_26 fX5_17 rfl (by assumption) rfl (by assumption) ?_
        refine aw_iload_n dX5_isPositional_29 rfl ?_
        refine aw_aald4' dX5_isPositional_30 (by assumption) (by omega) (by first | decide | omega) (hrf k (by omega)) ?_
        refine aw_getr' (j := 2) dX5_isPositional_31 fX5_44 rfl (by assumption) rfl (by exact hP.1.2.1) ?_
        refine aw_iload_n dX5_isPositional_34 rfl ?_
        refine aw_aald7' dX5_isPositional_35 (by exact hP.1.2.2.1) (by omega) (by first | decide | omega) (hP.1.2.2.2.2.1 j (by omega)) ?_
        refine aw_invV_r dX5_isPositional_36 vX8_isPositional kX5_57 rfl (K) ⟨_, (by assumption), _, _, rfl⟩ rfl rfl (by decide) (by decide) (by decide) (Nat.le_of_ble_eq_true rfl) ?_
        refine aw_if_eq (tgt := 44) dX5_isPositional_39 rfl (by omega) (fun c39 => ?_) (fun c39 => ?_)
        · exact absurd c39 (by omega)
        · refine aw_iconst dX5_isPositional_42 ?_
          exact aw_zreturn dX5_isPositional_43 rfl (by omega) (Or.inl rfl) ⟨rfl, rfl⟩
    · rw [if_neg q9] at K
      have ih' := ih (j + 1) (by omega) (fun i x hi hx => by
        by_cases q8 : i = j
        · subst q8
          rw [hs] at hx
          rw [← Option.some.inj hx]
          exact Bool.eq_false_iff.mpr q9
        · exact hj i x (by omega) hx)
      refine aw_iload_n dX5_isPositional_12 rfl ?_
      refine aw_aload_n dX5_isPositional_13 rfl ?_
      refine aw_getr' (j := 1) dX5_isPositional_14 fX5_17 rfl (by assumption) rfl (by assumption) ?_
      refine aw_iload_n dX5_isPositional_17 rfl ?_
      refine aw_aald4' dX5_isPositional_18 (by assumption) (by omega) (by first | decide | omega) (hrf k (by omega)) ?_
      refine aw_geti' (j := 1) dX5_isPositional_19 fX5_43 rfl (by assumption) rfl hP.2.2.1 ?_
      refine aw_ic_ge (tgt := 50) dX5_isPositional_22 rfl (by omega) (by omega) (fun c22 => ?_) (fun c22 => ?_)
      · exact absurd c22 (by omega)
      · refine aw_aload_n dX5_isPositional_25 rfl ?_
        refine aw_getr' (j := 1) dX5_isPositional_26 fX5_17 rfl (by assumption) rfl (by assumption) ?_
        refine aw_iload_n dX5_isPositional_29 rfl ?_
        refine aw_aald4' dX5_isPositional_30 (by assumption) (by omega) (by first | decide | omega) (hrf k (by omega)) ?_
        refine aw_getr' (j := 2) dX5_isPositional_31 fX5_44 rfl (by assumption) rfl (by exact hP.1.2.1) ?_
        refine aw_iload_n dX5_isPositional_34 rfl ?_
        refine aw_aald7' dX5_isPositional_35 (by exact hP.1.2.2.1) (by omega) (by first | decide | omega) (hP.1.2.2.2.2.1 j (by omega)) ?_
        refine aw_invV_r dX5_isPositional_36 vX8_isPositional kX5_57 rfl (K) ⟨_, (by assumption), _, _, rfl⟩ rfl rfl (by decide) (by decide) (by decide) (Nat.le_of_ble_eq_true rfl) ?_
        refine aw_if_eq (tgt := 44) dX5_isPositional_39 rfl (by omega) (fun c39 => ?_) (fun c39 => ?_)
        · refine aw_iinc (k9 := 2) (ls1 := [(2, _), (0, _), (1, _)]) dX5_isPositional_44 rfl (by decide) rfl ?_
          refine aw_goto (tgt := 12) dX5_isPositional_47 rfl ?_
          refine aw_sub [1, 2, 0] rfl ?_
          exact ih'
        · exact absurd c39 (by omega)
theorem l_qpos {γ : GG} {h : AH} {a : Nat} {π : Nat → Nat} {ρ : Nat → Nat → Nat} {q : TQ} (hQ : isQ h a π ρ q) (ho : okQ q) : ∀ (m k : Nat), k + m = q.length → (∀ i t, i < k → q[i]? = some t → isPosT t = false) → AW γ mX5_isPositional 2 0 0 2 [(0, vr (some a)), (1, vi (k : Int))] [] h (rV (vi (if isPosQ q = true then 1 else 0)) h) := by
  have hQ0 := hQ
  obtain ⟨⟨hk, hr, hk1, hπ, hrf, hst⟩, h0, hl4, hss⟩ := hQ
  intro m
  induction m with
  | zero =>
    intro k hkm hj
    have e : isPosQ q = false := any_no (fun i t ht => hj i t (by have := (List.getElem?_eq_some_iff.mp ht).1; omega) ht)
    rw [if_neg (by rw [e]; decide)]
    refine aw_iload_n dX5_isPositional_2 rfl ?_
    refine aw_aload_n dX5_isPositional_3 rfl ?_
    refine aw_geti' (j := 0) dX5_isPositional_4 fX5_9 rfl (by assumption) rfl h0 ?_
    refine aw_ic_ge (tgt := 56) dX5_isPositional_7 rfl (by omega) (by omega) (fun c7 => ?_) (fun c7 => ?_)
    · refine aw_iconst dX5_isPositional_56 ?_
      exact aw_zreturn dX5_isPositional_57 rfl (by omega) (Or.inl rfl) ⟨rfl, rfl⟩
    · exact absurd c7 (by omega)
  | succ m ih =>
    intro k hkm hj
    obtain ⟨t, ht⟩ : ∃ t, q[k]? = some t := ⟨_, List.getElem?_eq_getElem (by omega)⟩
    have K : isPosT t = false → AW γ mX5_isPositional 2 0 0 50 [(0, vr (some a)), (1, vi (k : Int))] [] h (rV (vi (if isPosQ q = true then 1 else 0)) h) := fun hp => by
      have ih' := ih (k + 1) (by omega) (fun i x hi hx => by
        by_cases q8 : i = k
        · subst q8
          rw [ht] at hx
          rw [← Option.some.inj hx]
          exact hp
        · exact hj i x (by omega) hx)
      refine aw_iinc (k9 := 1) (ls1 := [(1, _), (0, _)]) dX5_isPositional_50 rfl (by decide) rfl ?_
      refine aw_goto (tgt := 2) dX5_isPositional_53 rfl ?_
      refine aw_sub [1, 0] rfl ?_
      exact ih'
    have K2 := i_qpos hQ0 ht ho K t.2.length 0 (by omega) (fun i s hi => absurd hi (by omega))
    refine aw_iload_n dX5_isPositional_2 rfl ?_
    refine aw_aload_n dX5_isPositional_3 rfl ?_
    refine aw_geti' (j := 0) dX5_isPositional_4 fX5_9 rfl (by assumption) rfl h0 ?_
    refine aw_ic_ge (tgt := 56) dX5_isPositional_7 rfl (by omega) (by omega) (fun c7 => ?_) (fun c7 => ?_)
    · exact absurd c7 (by omega)
    · refine aw_iconst dX5_isPositional_10 ?_
      refine aw_istore_n (ls1 := [(2, _), (0, _), (1, _)]) dX5_isPositional_11 (by decide) rfl ?_
      refine aw_sub [1, 2, 0] rfl ?_
      exact K2
theorem c_qpos {γ : GG} {h : AH} {a : Nat} {π : Nat → Nat} {ρ : Nat → Nat → Nat} {q : TQ} (hQ : isQ h a π ρ q) (ho : okQ q) : Call γ mX5_isPositional 2 0 0 [vr (some a)] h (rV (vi (if isPosQ q = true then 1 else 0)) h) := by
  refine Call.of (ls := [(0, vr (some a))]) vX5_isPositional.1 (Nat.le_of_ble_eq_true rfl) rfl ?_
  refine aw_iconst dX5_isPositional_0 ?_
  refine aw_istore_n (ls1 := [(1, _), (0, _)]) dX5_isPositional_1 (by decide) rfl ?_
  refine aw_sub [1, 0] rfl ?_
  exact l_qpos hQ ho q.length 0 (by omega) (fun i t hi => absurd hi (by omega))
theorem cat9_map {α : Type} (g : α → List Int) : ∀ (l : List α), cat9 (fun j => match l[j]? with | none => [] | some x => g x) l.length = l.flatMap g := by
  intro l
  induction l with
  | nil => rfl
  | cons x r ih =>
    rw [List.length_cons, Nat.add_comm, cat9_add, List.flatMap_cons, ← ih]
    refine app2 (by simp [cat9]) (cat9_cong fun k _ => ?_)
    rw [show 1 + k = k + 1 by omega, List.getElem?_cons_succ]
def wSt (t : TT) (j : Nat) : List Int := match t.2[j]? with
  | none => []
  | some s => (if 0 < j ∨ t.1 = true then [47] else []) ++ wStep s
theorem path_cat {t : TT} (h : 1 ≤ t.2.length) : cat9 (wSt t) t.2.length = wPath t := by
  obtain ⟨b, l⟩ := t
  cases l with
  | nil => simp at h
  | cons s r =>
    show cat9 (wSt (b, s :: r)) (r.length + 1) = _
    rw [Nat.add_comm, cat9_add]
    have e : cat9 (fun k => wSt (b, s :: r) (1 + k)) r.length = r.flatMap (fun y => 47 :: wStep y) := by
      rw [← cat9_map]
      refine cat9_cong fun k _ => ?_
      unfold wSt
      show (match (s :: r)[1 + k]? with | none => [] | some s_1 => (if 0 < 1 + k ∨ b = true then [47] else []) ++ wStep s_1) = _
      rw [show 1 + k = k + 1 by omega, List.getElem?_cons_succ]
      cases r[k]? with
      | none => rfl
      | some x =>
        show (if 0 < k + 1 ∨ b = true then [47] else []) ++ wStep x = 47 :: wStep x
        rw [if_pos (Or.inl (by omega))]
        rfl
    rw [e]
    simp [wPath, jn, cat9, wSt, List.flatMap_map]
def wPt (q : TQ) (k : Nat) : List Int := match q[k]? with
  | none => []
  | some t => (if 0 < k then [124] else []) ++ wPath t
theorem qry_cat : ∀ (q : TQ), cat9 (wPt q) q.length = wQry q := by
  intro q
  cases q with
  | nil => rfl
  | cons s r =>
    rw [List.length_cons, Nat.add_comm, cat9_add]
    have e : cat9 (fun k => wPt (s :: r) (1 + k)) r.length = r.flatMap (fun y => 124 :: wPath y) := by
      rw [← cat9_map]
      refine cat9_cong fun k _ => ?_
      unfold wPt
      rw [show 1 + k = k + 1 by omega, List.getElem?_cons_succ]
      cases r[k]? with
      | none => rfl
      | some x =>
        show (if 0 < k + 1 then [124] else []) ++ wPath x = 124 :: wPath x
        rw [if_pos (by omega)]
        rfl
    rw [e]
    simp [wQry, jn, cat9, wPt, List.flatMap_map]
theorem isP_tputs {h : AH} {a o : Nat} {π : Nat → Nat} {t : TT} (hP : isP h a π t) (hab : a + 18 ≤ o ∨ o + 2 ≤ a) (l : List Int) : isP (tputs o h l) a π t := hP.eq (fun b b1 b2 => eqA_tputs (by omega) l h)
theorem isQ_tputs {h : AH} {a o : Nat} {π : Nat → Nat} {ρ : Nat → Nat → Nat} {q : TQ} (hQ : isQ h a π ρ q) (hab : a + 74 ≤ o ∨ o + 2 ≤ a) (l : List Int) : isQ (tputs o h l) a π ρ q := hQ.eq (fun b b1 b2 => eqA_tputs (by omega) l h)
theorem w_q62 {γ : GG} {h : AH} {a o n : Nat} {π : Nat → Nat} {ρ : Nat → Nat → Nat} {q : TQ} (hQ : isQ h a π ρ q) (ho : okQ q) (hT : isTx h o n) (hn : n ≤ 1024) (hab : a + 74 ≤ o ∨ o + 2 ≤ a) {Q : AR → AH → Prop} {t : TT} {s : TS} {k j : Nat} (ht : q[k]? = some t) (hs : t.2[j]? = some s) (hl : 0 ≤ gi h o 1 ∧ gi h o 1 + (wStep s).length ≤ n) (kk : AW γ mX5_writeTo 7 0 0 27 [(0, vr (some a)), (1, vr (some o)), (2, vi (k : Int)), (3, vi ((j : Int) + 1))] [] (tputs o h (wStep s)) Q) : AW γ mX5_writeTo 7 0 0 62 [(0, vr (some a)), (1, vr (some o)), (2, vi (k : Int)), (3, vi (j : Int))] [] h Q := by
  obtain ⟨⟨hk, hr, hk1, hπ, hrf, hst⟩, h0, hl4, hss⟩ := hQ
  have lk := (List.getElem?_eq_some_iff.mp ht).1
  have lj := (List.getElem?_eq_some_iff.mp hs).1
  have hP := hss k t ht
  have l8 := hP.2.2.2.1
  have hS := hP.2.2.2.2 j s hs
  have os := (ho.2 t (List.mem_of_getElem? ht)).2.2 s (List.mem_of_getElem? hs)
  have p1 := hπ.1 k (by omega)
  have p2 := pm_lt hP.1.2.2.2.1 (i := j) (by omega)
  have K := c_swr (γ := γ) hS os hT hn (by omega) hl
  have s2 := hS.1.1
  have s1 := hP.1.1
  refine aw_aload_n dX5_writeTo_62 rfl ?_
  refine aw_getr' (j := 1) dX5_writeTo_63 fX5_17 rfl (by assumption) rfl (by assumption) ?_
  refine aw_iload_n dX5_writeTo_66 rfl ?_
  refine aw_aald4' dX5_writeTo_67 (by assumption) (by omega) (by first | decide | omega) (hrf k (by omega)) ?_
  refine aw_getr' (j := 2) dX5_writeTo_68 fX5_44 rfl (by assumption) rfl (by exact hP.1.2.1) ?_
  refine aw_iload_n dX5_writeTo_71 rfl ?_
  refine aw_aald7' dX5_writeTo_72 (by exact hP.1.2.2.1) (by omega) (by first | decide | omega) (hP.1.2.2.2.2.1 j (by omega)) ?_
  refine aw_aload_n dX5_writeTo_73 rfl ?_
  refine aw_invV_n dX5_writeTo_74 vX8_writeTo kX5_72 rfl (K) ⟨_, (by assumption), _, _, rfl⟩ rfl rfl (by decide) (by decide) (by decide) (Nat.le_of_ble_eq_true rfl) ?_
  refine aw_iinc (k9 := 3) (ls1 := [(3, _), (0, _), (1, _), (2, _)]) dX5_writeTo_77 rfl (by decide) rfl ?_
  refine aw_goto (tgt := 27) dX5_writeTo_80 rfl ?_
  refine aw_sub [1, 2, 3, 0] rfl ?_
  exact kk
theorem w_q40 {γ : GG} {h : AH} {a o n : Nat} {π : Nat → Nat} {ρ : Nat → Nat → Nat} {q : TQ} (hQ : isQ h a π ρ q) (ho : okQ q) (hT : isTx h o n) (hn : n ≤ 1024) (hab : a + 74 ≤ o ∨ o + 2 ≤ a) {Q : AR → AH → Prop} {t : TT} {k j : Nat} (ht : q[k]? = some t) (hj : j < t.2.length) (hl : 0 ≤ gi h o 1 ∧ gi h o 1 + (wSt t j).length ≤ n) (kk : AW γ mX5_writeTo 7 0 0 27 [(0, vr (some a)), (1, vr (some o)), (2, vi (k : Int)), (3, vi ((j : Int) + 1))] [] (tputs o h (wSt t j)) Q) : AW γ mX5_writeTo 7 0 0 40 [(0, vr (some a)), (1, vr (some o)), (2, vi (k : Int)), (3, vi (j : Int))] [] h Q := by
  obtain ⟨s, hs⟩ : ∃ s, t.2[j]? = some s := ⟨_, List.getElem?_eq_getElem hj⟩
  have ew : wSt t j = (if 0 < j ∨ t.1 = true then [47] else []) ++ wStep s := by unfold wSt; rw [hs]
  rw [ew] at hl kk
  by_cases q9 : 0 < j ∨ t.1 = true
  · rw [if_pos q9] at hl kk
    rw [tputs_app] at kk
    have hl2 := hl.2
    simp only [List.length_append, List.length_singleton] at hl2
    have n1 := gi_tputs_len o [47] h
    simp only [List.length_singleton] at n1
    have K := w_q62 (isQ_tputs hQ hab [47]) ho (isTx_tputs [47] _ hT) hn hab ht hs (by omega) kk
    obtain ⟨⟨hk, hr, hk1, hπ, hrf, hst⟩, h0, hl4, hss⟩ := hQ
    have lk := (List.getElem?_eq_some_iff.mp ht).1
    have hP := hss k t ht
    have l8 := hP.2.2.2.1
    have s1 := hP.1.1
    have sT := hT.1
    by_cases q8 : 0 < j
    · refine aw_iload_n dX5_writeTo_40 rfl ?_
      refine aw_if_gt (tgt := 56) dX5_writeTo_41 rfl (by omega) (fun c41 => ?_) (fun c41 => ?_)
      · refine aw_aload_n dX5_writeTo_56 rfl ?_
        refine aw_bipush dX5_writeTo_57 rfl ?_
        refine aw_invV_n dX5_writeTo_59 vX9_put kX5_64 rfl (c_put hT hn (by omega) (by omega)) ⟨_, (by assumption), _, _, rfl⟩ rfl rfl (by decide) (by decide) (by decide) (Nat.le_of_ble_eq_true rfl) ?_
        exact K
      · exact absurd c41 (by omega)
    · have tb : bI t.1 = 1 := by rcases q9 with q9 | q9; exact absurd q9 q8; rw [q9]; rfl
      have g2 := hP.2.1
      rw [tb] at g2
      refine aw_iload_n dX5_writeTo_40 rfl ?_
      refine aw_if_gt (tgt := 56) dX5_writeTo_41 rfl (by omega) (fun c41 => ?_) (fun c41 => ?_)
      · exact absurd c41 (by omega)
      · refine aw_aload_n dX5_writeTo_44 rfl ?_
        refine aw_getr' (j := 1) dX5_writeTo_45 fX5_17 rfl (by assumption) rfl (by assumption) ?_
        refine aw_iload_n dX5_writeTo_48 rfl ?_
        refine aw_aald4' dX5_writeTo_49 (by assumption) (by omega) (by first | decide | omega) (hrf k (by omega)) ?_
        refine aw_geti' (j := 0) dX5_writeTo_50 fX5_68 rfl (by assumption) rfl g2 ?_
        refine aw_if_eq (tgt := 62) dX5_writeTo_53 rfl (by omega) (fun c53 => ?_) (fun c53 => ?_)
        · exact absurd c53 (by omega)
        · refine aw_aload_n dX5_writeTo_56 rfl ?_
          refine aw_bipush dX5_writeTo_57 rfl ?_
          refine aw_invV_n dX5_writeTo_59 vX9_put kX5_64 rfl (c_put hT hn (by omega) (by omega)) ⟨_, (by assumption), _, _, rfl⟩ rfl rfl (by decide) (by decide) (by decide) (Nat.le_of_ble_eq_true rfl) ?_
          exact K
  · rw [if_neg q9, List.nil_append] at hl kk
    have K := w_q62 hQ ho hT hn hab ht hs hl kk
    obtain ⟨⟨hk, hr, hk1, hπ, hrf, hst⟩, h0, hl4, hss⟩ := hQ
    have lk := (List.getElem?_eq_some_iff.mp ht).1
    have hP := hss k t ht
    have l8 := hP.2.2.2.1
    have s1 := hP.1.1
    have tb : bI t.1 = 0 := by cases e : t.1 with | false => rfl | true => exact absurd (Or.inr e) q9
    have g2 := hP.2.1
    rw [tb] at g2
    refine aw_iload_n dX5_writeTo_40 rfl ?_
    refine aw_if_gt (tgt := 56) dX5_writeTo_41 rfl (by omega) (fun c41 => ?_) (fun c41 => ?_)
    · exact absurd c41 (by omega)
    · refine aw_aload_n dX5_writeTo_44 rfl ?_
      refine aw_getr' (j := 1) dX5_writeTo_45 fX5_17 rfl (by assumption) rfl (by assumption) ?_
      refine aw_iload_n dX5_writeTo_48 rfl ?_
      refine aw_aald4' dX5_writeTo_49 (by assumption) (by omega) (by first | decide | omega) (hrf k (by omega)) ?_
      refine aw_geti' (j := 0) dX5_writeTo_50 fX5_68 rfl (by assumption) rfl g2 ?_
      refine aw_if_eq (tgt := 62) dX5_writeTo_53 rfl (by omega) (fun c53 => ?_) (fun c53 => ?_)
      · exact K
      · exact absurd c53 (by omega)
theorem i_qwr {γ : GG} {h : AH} {a o n : Nat} {π : Nat → Nat} {ρ : Nat → Nat → Nat} {q : TQ} (hQ : isQ h a π ρ q) (ho : okQ q) (hT : isTx h o n) (hn : n ≤ 1024) (hab : a + 74 ≤ o ∨ o + 2 ≤ a) {Q : AR → AH → Prop} {t : TT} {k : Nat} (ht : q[k]? = some t) (hl : 0 ≤ gi h o 1 ∧ gi h o 1 + (wPath t).length ≤ n) (kk : AW γ mX5_writeTo 7 0 0 83 [(0, vr (some a)), (1, vr (some o)), (2, vi (k : Int))] [] (tputs o h (wPath t)) Q) : ∀ (m j : Nat), j + m = t.2.length → AW γ mX5_writeTo 7 0 0 27 [(0, vr (some a)), (1, vr (some o)), (2, vi (k : Int)), (3, vi (j : Int))] [] (tputs o h (cat9 (wSt t) j)) Q := by
  have ot := ho.2 t (List.mem_of_getElem? ht)
  rw [← path_cat ot.1] at hl kk
  have lk := (List.getElem?_eq_some_iff.mp ht).1
  intro m
  induction m with
  | zero =>
    intro j hjm
    rw [show j = t.2.length by omega]
    obtain ⟨⟨hk, hr, hk1, hπ, hrf, hst⟩, h0, hl4, hss⟩ := isQ_tputs hQ hab (cat9 (wSt t) t.2.length)
    have hP := hss k t ht
    have l8 := hP.2.2.2.1
    have s1 := hP.1.1
    refine aw_iload_n dX5_writeTo_27 rfl ?_
    refine aw_aload_n dX5_writeTo_28 rfl ?_
    refine aw_getr' (j := 1) dX5_writeTo_29 fX5_17 rfl (by assumption) rfl (by assumption) ?_
    refine aw_iload_n dX5_writeTo_32 rfl ?_
    refine aw_aald4' dX5_writeTo_33 (by assumption) (by omega) (by first | decide | omega) (hrf k (by omega)) ?_
    refine aw_geti' (j := 1) dX5_writeTo_34 fX5_43 rfl (by assumption) rfl hP.2.2.1 ?_
    refine aw_ic_ge (tgt := 83) dX5_writeTo_37 rfl (by omega) (by omega) (fun c37 => ?_) (fun c37 => ?_)
    · refine aw_sub [0, 1, 2] rfl ?_
      exact kk
    · exact absurd c37 (by omega)
  | succ m ih =>
    intro j hjm
    have ih' := ih (j + 1) (by omega)
    simp only [cat9] at ih'
    rw [tputs_app] at ih'
    have hle := cat9_le (wSt t) (k := j) (n := t.2.length) (by omega)
    have n1 := gi_tputs_len o (cat9 (wSt t) j) h
    have K := w_q40 (isQ_tputs hQ hab (cat9 (wSt t) j)) ho (isTx_tputs _ _ hT) hn hab ht (by omega) (by omega) ih'
    obtain ⟨⟨hk, hr, hk1, hπ, hrf, hst⟩, h0, hl4, hss⟩ := isQ_tputs hQ hab (cat9 (wSt t) j)
    have hP := hss k t ht
    have l8 := hP.2.2.2.1
    have s1 := hP.1.1
    refine aw_iload_n dX5_writeTo_27 rfl ?_
    refine aw_aload_n dX5_writeTo_28 rfl ?_
    refine aw_getr' (j := 1) dX5_writeTo_29 fX5_17 rfl (by assumption) rfl (by assumption) ?_
    refine aw_iload_n dX5_writeTo_32 rfl ?_
    refine aw_aald4' dX5_writeTo_33 (by assumption) (by omega) (by first | decide | omega) (hrf k (by omega)) ?_
    refine aw_geti' (j := 1) dX5_writeTo_34 fX5_43 rfl (by assumption) rfl hP.2.2.1 ?_
    refine aw_ic_ge (tgt := 83) dX5_writeTo_37 rfl (by omega) (by omega) (fun c37 => ?_) (fun c37 => ?_)
    · exact absurd c37 (by omega)
    · exact K
theorem l_qwr {γ : GG} {h : AH} {a o n : Nat} {π : Nat → Nat} {ρ : Nat → Nat → Nat} {q : TQ} (hQ : isQ h a π ρ q) (ho : okQ q) (hT : isTx h o n) (hn : n ≤ 1024) (hab : a + 74 ≤ o ∨ o + 2 ≤ a) (hl : gi h o 1 = 0 ∧ (wQry q).length ≤ n) : ∀ (m k : Nat), k + m = q.length → AW γ mX5_writeTo 7 0 0 7 [(0, vr (some a)), (1, vr (some o)), (2, vi (k : Int))] [] (tputs o h (cat9 (wPt q) k)) (rN (tputs o h (wQry q))) := by
  have hl4' := hQ.2.2.1
  rw [← qry_cat] at hl ⊢
  intro m
  induction m with
  | zero =>
    intro k hkm
    rw [show k = q.length by omega]
    obtain ⟨⟨hk, hr, hk1, hπ, hrf, hst⟩, h0, hl4, hss⟩ := isQ_tputs hQ hab (cat9 (wPt q) q.length)
    refine aw_iload_n dX5_writeTo_7 rfl ?_
    refine aw_aload_n dX5_writeTo_8 rfl ?_
    refine aw_geti' (j := 0) dX5_writeTo_9 fX5_9 rfl (by assumption) rfl h0 ?_
    refine aw_ic_ge (tgt := 89) dX5_writeTo_12 rfl (by omega) (by omega) (fun c12 => ?_) (fun c12 => ?_)
    · exact aw_return dX5_writeTo_89 rfl (Or.inl rfl) ⟨rfl, rfl⟩
    · exact absurd c12 (by omega)
  | succ m ih =>
    intro k hkm
    obtain ⟨t, ht⟩ : ∃ t, q[k]? = some t := ⟨_, List.getElem?_eq_getElem (by omega)⟩
    have ih' := ih (k + 1) (by omega)
    simp only [cat9] at ih'
    have hle := cat9_le (wPt q) (k := k) (n := q.length) (by omega)
    have n1 := gi_tputs_len o (cat9 (wPt q) k) h
    have ew : wPt q k = (if 0 < k then [124] else []) ++ wPath t := by unfold wPt; rw [ht]
    rw [ew] at ih' hle
    have hT1 := isTx_tputs (cat9 (wPt q) k) _ hT
    have sT := hT1.1
    by_cases q9 : 0 < k
    · rw [if_pos q9] at ih' hle
      simp only [List.length_append, List.length_singleton] at hle
      rw [← List.append_assoc, tputs_app] at ih'
      have n2 := gi_tputs_len o (cat9 (wPt q) k ++ [124]) h
      simp only [List.length_append, List.length_singleton] at n2
      have K83 : AW γ mX5_writeTo 7 0 0 83 [(0, vr (some a)), (1, vr (some o)), (2, vi (k : Int))] [] (tputs o (tputs o h (cat9 (wPt q) k ++ [124])) (wPath t)) (rN (tputs o h (cat9 (wPt q) q.length))) := by
        refine aw_iinc (k9 := 2) (ls1 := [(2, _), (0, _), (1, _)]) dX5_writeTo_83 rfl (by decide) rfl ?_
        refine aw_goto (tgt := 7) dX5_writeTo_86 rfl ?_
        refine aw_sub [1, 2, 0] rfl ?_
        exact ih'
      have K := i_qwr (isQ_tputs hQ hab (cat9 (wPt q) k ++ [124])) ho (isTx_tputs _ _ hT) hn hab ht (by omega) K83 t.2.length 0 (by omega)
      rw [tputs_app] at K
      obtain ⟨⟨hk, hr, hk1, hπ, hrf, hst⟩, h0, hl4, hss⟩ := isQ_tputs hQ hab (cat9 (wPt q) k)
      refine aw_iload_n dX5_writeTo_7 rfl ?_
      refine aw_aload_n dX5_writeTo_8 rfl ?_
      refine aw_geti' (j := 0) dX5_writeTo_9 fX5_9 rfl (by assumption) rfl h0 ?_
      refine aw_ic_ge (tgt := 89) dX5_writeTo_12 rfl (by omega) (by omega) (fun c12 => ?_) (fun c12 => ?_)
      · exact absurd c12 (by omega)
      · refine aw_iload_n dX5_writeTo_15 rfl ?_
        refine aw_if_le (tgt := 25) dX5_writeTo_16 rfl (by omega) (fun c16 => ?_) (fun c16 => ?_)
        · exact absurd c16 (by omega)
        · refine aw_aload_n dX5_writeTo_19 rfl ?_
          refine aw_bipush dX5_writeTo_20 rfl ?_
          refine aw_invV_n dX5_writeTo_22 vX9_put kX5_64 rfl (c_put hT1 hn (by omega) (by omega)) ⟨_, (by assumption), _, _, rfl⟩ rfl rfl (by decide) (by decide) (by decide) (Nat.le_of_ble_eq_true rfl) ?_
          refine aw_iconst dX5_writeTo_25 ?_
          refine aw_istore_n (ls1 := [(3, _), (0, _), (1, _), (2, _)]) dX5_writeTo_26 (by decide) rfl ?_
          refine aw_sub [1, 2, 3, 0] rfl ?_
          exact K
    · rw [if_neg q9, List.nil_append] at ih' hle
      rw [tputs_app] at ih'
      have K83 : AW γ mX5_writeTo 7 0 0 83 [(0, vr (some a)), (1, vr (some o)), (2, vi (k : Int))] [] (tputs o (tputs o h (cat9 (wPt q) k)) (wPath t)) (rN (tputs o h (cat9 (wPt q) q.length))) := by
        refine aw_iinc (k9 := 2) (ls1 := [(2, _), (0, _), (1, _)]) dX5_writeTo_83 rfl (by decide) rfl ?_
        refine aw_goto (tgt := 7) dX5_writeTo_86 rfl ?_
        refine aw_sub [1, 2, 0] rfl ?_
        exact ih'
      have K := i_qwr (isQ_tputs hQ hab (cat9 (wPt q) k)) ho (isTx_tputs _ _ hT) hn hab ht (by omega) K83 t.2.length 0 (by omega)
      obtain ⟨⟨hk, hr, hk1, hπ, hrf, hst⟩, h0, hl4, hss⟩ := isQ_tputs hQ hab (cat9 (wPt q) k)
      refine aw_iload_n dX5_writeTo_7 rfl ?_
      refine aw_aload_n dX5_writeTo_8 rfl ?_
      refine aw_geti' (j := 0) dX5_writeTo_9 fX5_9 rfl (by assumption) rfl h0 ?_
      refine aw_ic_ge (tgt := 89) dX5_writeTo_12 rfl (by omega) (by omega) (fun c12 => ?_) (fun c12 => ?_)
      · exact absurd c12 (by omega)
      · refine aw_iload_n dX5_writeTo_15 rfl ?_
        refine aw_if_le (tgt := 25) dX5_writeTo_16 rfl (by omega) (fun c16 => ?_) (fun c16 => ?_)
        · refine aw_iconst dX5_writeTo_25 ?_
          refine aw_istore_n (ls1 := [(3, _), (0, _), (1, _), (2, _)]) dX5_writeTo_26 (by decide) rfl ?_
          refine aw_sub [1, 2, 3, 0] rfl ?_
          exact K
        · exact absurd c16 (by omega)
theorem c_qwr {γ : GG} {h : AH} {a o n : Nat} {π : Nat → Nat} {ρ : Nat → Nat → Nat} {q : TQ} (hQ : isQ h a π ρ q) (ho : okQ q) (hT : isTx h o n) (hn : n ≤ 1024) (hab : a + 74 ≤ o ∨ o + 2 ≤ a) (hl : (wQry q).length ≤ n) : Call γ mX5_writeTo 7 0 0 [vr (some a), vr (some o)] h (rN (tputs o (si h o 1 0) (wQry q))) := by
  have hne : ∀ c, c ≠ o → eqA h (si h o 1 0) c := fun c hc => eqA.si (fun z => hc z)
  have K := l_qwr (γ := γ) (h := si h o 1 0) (hQ.eq (fun c c1 c2 => hne c (by omega))) ho ⟨hT.1, hT.2.1, hT.2.2⟩ hn hab ⟨by rw [gi_at rfl rfl], hl⟩ q.length 0 (by omega)
  have sT := hT.1
  refine Call.of (ls := [(0, vr (some a)), (1, vr (some o))]) vX5_writeTo.1 (Nat.le_of_ble_eq_true rfl) rfl ?_
  refine aw_aload_n dX5_writeTo_0 rfl ?_
  refine aw_iconst dX5_writeTo_1 ?_
  refine aw_puti' (j := 1) rfl dX5_writeTo_2 fX5_61 (by assumption) rfl ?_
  refine aw_iconst dX5_writeTo_5 ?_
  refine aw_istore_n (ls1 := [(2, _), (0, _), (1, _)]) dX5_writeTo_6 (by decide) rfl ?_
  refine aw_sub [1, 2, 0] rfl ?_
  exact K
