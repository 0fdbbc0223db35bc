/-! ===== Query: append, copy ===== -/
theorem take_snoc {α : Type} {l : List α} {k : Nat} {x : α} (h : l[k]? = some x) : l.take (k + 1) = l.take k ++ [x] := by rw [List.take_succ, h]; rfl
theorem take_sum {α : Type} {l : List α} {k : Nat} {x : α} (f : α → Nat) (h : l[k]? = some x) : ((l.take (k + 1)).map f).sum = ((l.take k).map f).sum + f x := by rw [take_snoc h]; simp
theorem l_qapp {γ : GG} {h : AH} {a b : Nat} {π πb : Nat → Nat} {ρ ρb : Nat → Nat → Nat} {q r : TQ} (hB : isQ h b πb ρb r) (hab : a + 74 ≤ b ∨ b + 74 ≤ a) (hl : q.length + r.length ≤ 4) : ∀ (m k : Nat) (H : AH), k + m = r.length → isQ H a π ρ (q ++ r.take k) → eqO h H a (a + 74) → AW γ mX5_append 3 0 0 2 [(0, vr (some a)), (1, vr (some b)), (2, vi (k : Int))] [] H (rF (fun h' => isQ h' a π ρ (q ++ r) ∧ eqO h h' a (a + 74))) := by
  intro m
  induction m with
  | zero =>
    intro k H hkm hQ hE
    have hQ0 := hQ
    rw [show k = r.length by omega, List.take_length] at hQ0
    obtain ⟨⟨hkb, hrb, hk1b, hπb, hrfb, hstb⟩, h0b, hl4b, hssb⟩ := hB.eq (fun c c1 c2 => hE.2 c (by omega))
    obtain ⟨⟨hk, hr, hk1, hπ, hrf, hst⟩, h0, hl4, hss⟩ := hQ
    refine aw_iload_n dX5_append_2 rfl ?_
    refine aw_aload_n dX5_append_3 rfl ?_
    refine aw_geti' (j := 0) dX5_append_4 fX5_9 rfl (by assumption) rfl h0b ?_
    refine aw_ic_ge (tgt := 52) dX5_append_7 rfl (by omega) (by omega) (fun c7 => ?_) (fun c7 => ?_)
    · exact aw_return dX5_append_52 rfl (Or.inl rfl) ⟨rfl, hQ0, hE⟩
    · exact absurd c7 (by omega)
  | succ m ih =>
    intro k H hkm hQ hE
    have hQ0 := hQ
    obtain ⟨t, ht⟩ : ∃ t, r[k]? = some t := ⟨_, List.getElem?_eq_getElem (by omega)⟩
    obtain ⟨⟨hkb, hrb, hk1b, hπb, hrfb, hstb⟩, h0b, hl4b, hssb⟩ := hB.eq (fun c c1 c2 => hE.2 c (by omega))
    obtain ⟨n, hn⟩ : ∃ n, n = (q ++ r.take k).length := ⟨_, rfl⟩
    have hn2 : n = q.length + k := by rw [hn, List.length_append, List.length_take]; omega
    have hadd := fun (h1 : AH) (e1 : isP h1 (a + 2 + 18 * π n) (ρ (π n)) t) (e2 : eqO H h1 (a + 2 + 18 * π n) (a + 2 + 18 * π n + 18)) => isQ.add (h' := h1) (r := ρ (π n)) (t := t) hQ0 (by omega) (by rw [← hn]; exact e1) (by rw [← hn]; exact e2)
    rw [← hn, uqs_id, List.append_assoc, ← take_snoc ht] at hadd
    obtain ⟨⟨hk, hr, hk1, hπ, hrf, hst⟩, h0, hl4, hss⟩ := hQ
    rw [← hn] at h0
    have p1 := hπ.1 n (by omega)
    have p2 := hπb.1 k (by omega)
    have K := c_pcopy (γ := γ) (hst _ p1) (hssb k t ht) (by omega)
    have s1 := (hst _ p1).1
    refine aw_iload_n dX5_append_2 rfl ?_
    refine aw_aload_n dX5_append_3 rfl ?_
    refine aw_geti' (j := 0) dX5_append_4 fX5_9 rfl (by assumption) rfl h0b ?_
    refine aw_ic_ge (tgt := 52) dX5_append_7 rfl (by omega) (by omega) (fun c7 => ?_) (fun c7 => ?_)
    · exact absurd c7 (by omega)
    · refine aw_aload_n dX5_append_10 rfl ?_
      refine aw_geti' (j := 0) dX5_append_11 fX5_9 rfl (by assumption) rfl h0 ?_
      refine aw_iconst dX5_append_14 ?_
      refine aw_ic_ge (tgt := 52) dX5_append_15 rfl (by omega) (by omega) (fun c15 => ?_) (fun c15 => ?_)
      · exact absurd c15 (by omega)
      · refine aw_aload_n dX5_append_18 rfl ?_
        refine aw_getr' (j := 1) dX5_append_19 fX5_17 rfl (by assumption) rfl (by assumption) ?_
        refine aw_aload_n dX5_append_22 rfl ?_
        refine aw_geti' (j := 0) dX5_append_23 fX5_9 rfl (by assumption) rfl h0 ?_
        refine aw_aald4' dX5_append_26 (by assumption) (by omega) (by first | decide | omega) (hrf n (by omega)) ?_
        refine aw_aload_n dX5_append_27 rfl ?_
        refine aw_getr' (j := 1) dX5_append_28 fX5_17 rfl (by assumption) rfl (by assumption) ?_
        refine aw_iload_n dX5_append_31 rfl ?_
        refine aw_aald4' dX5_append_32 (by assumption) (by omega) (by first | decide | omega) (hrfb k (by omega)) ?_
        refine aw_invV_f dX5_append_33 vX4_copyFrom kX5_26 rfl (K) ⟨_, (by assumption), _, _, rfl⟩ rfl rfl (by decide) (by decide) (by decide) (Nat.le_of_ble_eq_true rfl) (fun h1 hP9 => ?_)
        obtain ⟨e1, e2⟩ := hP9
        have z0 := e2.2 a (by omega)
        have k9 : kd h1 a = some (.inl 4) := z0.1.trans hk
        have g9 : gi h1 a 0 = n := ((z0.2 0).1).trans h0
        refine aw_aload_n dX5_append_36 rfl ?_
        refine aw_dup dX5_append_37 rfl ?_
        refine aw_geti' (j := 0) dX5_append_38 fX5_9 rfl (by assumption) rfl g9 ?_
        refine aw_iconst dX5_append_41 ?_
        refine aw_iadd dX5_append_42 ?_
        refine aw_puti' (j := 0) rfl dX5_append_43 fX5_9 (by assumption) rfl ?_
        refine aw_iinc (k9 := 2) (ls1 := [(2, _), (0, _), (1, _)]) dX5_append_46 rfl (by decide) rfl ?_
        refine aw_goto (tgt := 2) dX5_append_49 rfl ?_
        refine aw_sub [1, 2, 0] rfl ?_
        exact ih (k + 1) _ (by omega) (hadd h1 e1 e2) ((hE.tr (e2.mono (by omega) (by omega))).tr (eqO.si (by omega) (by omega)))
theorem c_qapp {γ : GG} {h : AH} {a b : Nat} {π πb : Nat → Nat} {ρ ρb : Nat → Nat → Nat} {q r : TQ} (hA : isQ h a π ρ q) (hB : isQ h b πb ρb r) (hab : a + 74 ≤ b ∨ b + 74 ≤ a) (hl : q.length + r.length ≤ 4) : Call γ mX5_append 3 0 0 [vr (some a), vr (some b)] h (rF (fun h' => isQ h' a π ρ (q ++ r) ∧ eqO h h' a (a + 74))) := by
  have K := l_qapp (γ := γ) (a := a) (π := π) (ρ := ρ) (q := q) hB hab hl r.length 0 h (by omega) (by rw [List.take_zero, List.append_nil]; exact hA) eqO.rf
  refine Call.of (ls := [(0, vr (some a)), (1, vr (some b))]) vX5_append.1 (Nat.le_of_ble_eq_true rfl) rfl ?_
  refine aw_iconst dX5_append_0 ?_
  refine aw_istore_n (ls1 := [(2, _), (0, _), (1, _)]) dX5_append_1 (by decide) rfl ?_
  refine aw_sub [1, 2, 0] rfl ?_
  exact K
theorem c_qcopy {γ : GG} {h : AH} {a b : Nat} {π πb : Nat → Nat} {ρ ρb : Nat → Nat → Nat} {r : TQ} (hA : shQ h a π ρ) (hB : isQ h b πb ρb r) (hab : a + 74 ≤ b ∨ b + 74 ≤ a) : Call γ mX5_copyFrom 4 0 0 [vr (some a), vr (some b)] h (rF (fun h' => isQ h' a π ρ r ∧ eqO h h' a (a + 74))) := by
  have hne : ∀ c, c ≠ a → eqA h (si h a 0 0) c := fun c hc => eqA.si (fun z => hc z)
  have K := c_qapp (γ := γ) (h := si h a 0 0) (a := a) (π := π) (ρ := ρ) (q := []) ⟨⟨hA.1, hA.2.1, hA.2.2.1, hA.2.2.2.1, hA.2.2.2.2.1, fun i hi => (hA.2.2.2.2.2 i hi).eq (fun c c1 c2 => hne c (by omega))⟩, by rw [gi_at rfl rfl]; rfl, Nat.zero_le _, fun i s hi => by simp at hi⟩ (hB.eq (fun c c1 c2 => hne c (by omega))) hab (by have := hB.2.2.1; simp; omega)
  rw [List.nil_append] at K
  have hk := hA.1
  refine Call.of (ls := [(0, vr (some a)), (1, vr (some b))]) vX5_copyFrom.1 (Nat.le_of_ble_eq_true rfl) rfl ?_
  refine aw_aload_n dX5_copyFrom_0 rfl ?_
  refine aw_iconst dX5_copyFrom_1 ?_
  refine aw_puti' (j := 0) rfl dX5_copyFrom_2 fX5_9 (by assumption) rfl ?_
  refine aw_aload_n dX5_copyFrom_5 rfl ?_
  refine aw_aload_n dX5_copyFrom_6 rfl ?_
  refine aw_invV_f dX5_copyFrom_7 vX5_append kX5_22 rfl (K) ⟨_, (by exact hk), _, _, rfl⟩ rfl rfl (by decide) (by decide) (by decide) (Nat.le_of_ble_eq_true rfl) (fun h1 hP9 => ?_)
  obtain ⟨e1, e2⟩ := hP9
  exact aw_return dX5_copyFrom_10 rfl (Or.inl rfl) ⟨rfl, e1, (eqO.si (by omega) (by omega)).tr e2⟩
theorem l_qrep {γ : GG} {h : AH} {a : Nat} {π : Nat → Nat} {ρ : Nat → Nat → Nat} {q : TQ} {i : Nat} {t : TT} (hQ : isQ h a π ρ q) (hi : i < q.length) (ht : q[i]? = some t) (ho : okQ q) : ∀ (m k : Nat), k + m = i → (∀ j x, j < k → q[j]? = some x → t_dT x t = false) → AW γ mX5_isRepeated 2 0 0 2 [(0, vr (some a)), (1, vi (i : Int)), (2, vi (k : Int))] [] h (rV (vi (if (q.take i).any (fun x => t_dT x t) = true then 1 else 0)) h) := by
  obtain ⟨⟨hk, hr, hk1, hπ, hrf, hst⟩, h0, hl4, hss⟩ := hQ
  intro m
  induction m with
  | zero =>
    intro k hkm hj
    rw [if_neg (fun z => by
      obtain ⟨x, hx, z⟩ := List.any_eq_true.mp z
      obtain ⟨j, hj2⟩ := List.getElem?_of_mem hx
      have lj := (List.getElem?_eq_some_iff.mp hj2).1
      rw [List.length_take] at lj
      rw [List.getElem?_take_of_lt (by omega)] at hj2
      rw [hj j x (by omega) hj2] at z
      cases z)]
    refine aw_iload_n dX5_isRepeated_2 rfl ?_
    refine aw_iload_n dX5_isRepeated_3 rfl ?_
    refine aw_ic_ge (tgt := 33) dX5_isRepeated_4 rfl (by omega) (by omega) (fun c4 => ?_) (fun c4 => ?_)
    · refine aw_iconst dX5_isRepeated_33 ?_
      exact aw_zreturn dX5_isRepeated_34 rfl (by omega) (Or.inl rfl) ⟨rfl, rfl⟩
    · exact absurd c4 (by omega)
  | succ m ih =>
    intro k hkm hj
    obtain ⟨x, hx⟩ : ∃ x, q[k]? = some x := ⟨_, List.getElem?_eq_getElem (by omega)⟩
    have K := c_plike (γ := γ) (hss k x hx) (hss i t ht) (ho.2 x (List.mem_of_getElem? hx)).2.2 (ho.2 t (List.mem_of_getElem? ht)).2.2
    have s1 := (hss k x hx).1.1
    by_cases q9 : t_dT x t = true
    · rw [if_pos q9] at K
      rw [if_pos (List.any_eq_true.mpr ⟨x, List.mem_of_getElem? (i := k) (by rw [List.getElem?_take_of_lt (by omega)]; exact hx), q9⟩)]
      refine aw_iload_n dX5_isRepeated_2 rfl ?_
      refine aw_iload_n dX5_isRepeated_3 rfl ?_
      refine aw_ic_ge (tgt := 33) dX5_isRepeated_4 rfl (by omega) (by omega) (fun c4 => ?_) (fun c4 => ?_)
      · exact absurd c4 (by omega)
      · refine aw_aload_n dX5_isRepeated_7 rfl ?_
        refine aw_getr' (j := 1) dX5_isRepeated_8 fX5_17 rfl (by assumption) rfl (by assumption) ?_
        refine aw_iload_n dX5_isRepeated_11 rfl ?_
        refine aw_aald4' dX5_isRepeated_12 (by assumption) (by omega) (by first | decide | omega) (hrf k (by omega)) ?_
        refine aw_aload_n dX5_isRepeated_13 rfl ?_
        refine aw_getr' (j := 1) dX5_isRepeated_14 fX5_17 rfl (by assumption) rfl (by assumption) ?_
        refine aw_iload_n dX5_isRepeated_17 rfl ?_
        refine aw_aald4' dX5_isRepeated_18 (by assumption) (by omega) (by first | decide | omega) (hrf i (by omega)) ?_
        refine aw_invV_r dX5_isRepeated_19 vX4_isLike kX5_39 rfl (K) ⟨_, (by assumption), _, _, rfl⟩ rfl rfl (by decide) (by decide) (by decide) (Nat.le_of_ble_eq_true rfl) ?_
        refine aw_if_eq (tgt := 27) dX5_isRepeated_22 rfl (by omega) (fun c22 => ?_) (fun c22 => ?_)
        · exact absurd c22 (by omega)
        · refine aw_iconst dX5_isRepeated_25 ?_
          exact aw_zreturn dX5_isRepeated_26 rfl (by omega) (Or.inl rfl) ⟨rfl, rfl⟩
    · rw [if_neg q9] at K
      have ih' := ih (k + 1) (by omega) (fun j y hj2 hy => by
        by_cases q8 : j = k
        · subst q8
          rw [hx] at hy
          rw [← Option.some.inj hy]
          exact Bool.eq_false_iff.mpr q9
        · exact hj j y (by omega) hy)
      refine aw_iload_n dX5_isRepeated_2 rfl ?_
      refine aw_iload_n dX5_isRepeated_3 rfl ?_
      refine aw_ic_ge (tgt := 33) dX5_isRepeated_4 rfl (by omega) (by omega) (fun c4 => ?_) (fun c4 => ?_)
      · exact absurd c4 (by omega)
      · refine aw_aload_n dX5_isRepeated_7 rfl ?_
        refine aw_getr' (j := 1) dX5_isRepeated_8 fX5_17 rfl (by assumption) rfl (by assumption) ?_
        refine aw_iload_n dX5_isRepeated_11 rfl ?_
        refine aw_aald4' dX5_isRepeated_12 (by assumption) (by omega) (by first | decide | omega) (hrf k (by omega)) ?_
        refine aw_aload_n dX5_isRepeated_13 rfl ?_
        refine aw_getr' (j := 1) dX5_isRepeated_14 fX5_17 rfl (by assumption) rfl (by assumption) ?_
        refine aw_iload_n dX5_isRepeated_17 rfl ?_
        refine aw_aald4' dX5_isRepeated_18 (by assumption) (by omega) (by first | decide | omega) (hrf i (by omega)) ?_
        refine aw_invV_r dX5_isRepeated_19 vX4_isLike kX5_39 rfl (K) ⟨_, (by assumption), _, _, rfl⟩ rfl rfl (by decide) (by decide) (by decide) (Nat.le_of_ble_eq_true rfl) ?_
        refine aw_if_eq (tgt := 27) dX5_isRepeated_22 rfl (by omega) (fun c22 => ?_) (fun c22 => ?_)
        · refine aw_iinc (k9 := 2) (ls1 := [(2, _), (0, _), (1, _)]) dX5_isRepeated_27 rfl (by decide) rfl ?_
          refine aw_goto (tgt := 2) dX5_isRepeated_30 rfl ?_
          refine aw_sub [1, 2, 0] rfl ?_
          exact ih'
        · exact absurd c22 (by omega)
theorem c_qrep {γ : GG} {h : AH} {a : Nat} {π : Nat → Nat} {ρ : Nat → Nat → Nat} {q : TQ} {i : Nat} {t : TT} (hQ : isQ h a π ρ q) (hi : i < q.length) (ht : q[i]? = some t) (ho : okQ q) : Call γ mX5_isRepeated 2 0 0 [vr (some a), vi (i : Int)] h (rV (vi (if (q.take i).any (fun x => t_dT x t) = true then 1 else 0)) h) := by
  refine Call.of (ls := [(0, vr (some a)), (1, vi (i : Int))]) vX5_isRepeated.1 (Nat.le_of_ble_eq_true rfl) rfl ?_
  refine aw_iconst dX5_isRepeated_0 ?_
  refine aw_istore_n (ls1 := [(2, _), (0, _), (1, _)]) dX5_isRepeated_1 (by decide) rfl ?_
  refine aw_sub [1, 2, 0] rfl ?_
  exact l_qrep hQ hi ht ho i 0 (by omega) (fun j x hj => absurd hj (by omega))
/-! ===== Query: numbers ===== -/
theorem l_qst {γ : GG} {h : AH} {a : Nat} {π : Nat → Nat} {ρ : Nat → Nat → Nat} {q : TQ} (hQ : isQ h a π ρ q) : ∀ (m k : Nat), k + m = q.length → AW γ mX5_stepTotal 0 0 0 4 [(0, vr (some a)), (1, vi (((q.take k).map (fun t => t.2.length)).sum : Nat)), (2, vi (k : Int))] [] h (rV (vi ((q.map (fun t => t.2.length)).sum : Nat)) h) := by
  obtain ⟨⟨hk, hr, hk1, hπ, hrf, hst⟩, h0, hl4, hss⟩ := hQ
  intro m
  induction m with
  | zero =>
    intro k hkm
    rw [show k = q.length by omega, List.take_length]
    refine aw_iload_n dX5_stepTotal_4 rfl ?_
    refine aw_aload_n dX5_stepTotal_5 rfl ?_
    refine aw_geti' (j := 0) dX5_stepTotal_6 fX5_9 rfl (by assumption) rfl h0 ?_
    refine aw_ic_ge (tgt := 30) dX5_stepTotal_9 rfl (by omega) (by omega) (fun c9 => ?_) (fun c9 => ?_)
    · refine aw_iload_n dX5_stepTotal_30 rfl ?_
      exact aw_ireturn dX5_stepTotal_31 rfl (Or.inl rfl) ⟨rfl, rfl⟩
    · exact absurd c9 (by omega)
  | succ m ih =>
    intro k hkm
    obtain ⟨t, ht⟩ : ∃ t, q[k]? = some t := ⟨_, List.getElem?_eq_getElem (by omega)⟩
    have ih' := ih (k + 1) (by omega)
    rw [take_sum _ ht, Int.natCast_add] at ih'
    have hP := hss k t ht
    have s1 := hP.1.1
    refine aw_iload_n dX5_stepTotal_4 rfl ?_
    refine aw_aload_n dX5_stepTotal_5 rfl ?_
    refine aw_geti' (j := 0) dX5_stepTotal_6 fX5_9 rfl (by assumption) rfl h0 ?_
    refine aw_ic_ge (tgt := 30) dX5_stepTotal_9 rfl (by omega) (by omega) (fun c9 => ?_) (fun c9 => ?_)
    · exact absurd c9 (by omega)
    · refine aw_iload_n dX5_stepTotal_12 rfl ?_
      refine aw_aload_n dX5_stepTotal_13 rfl ?_
      refine aw_getr' (j := 1) dX5_stepTotal_14 fX5_17 rfl (by assumption) rfl (by assumption) ?_
      refine aw_iload_n dX5_stepTotal_17 rfl ?_
      refine aw_aald4' dX5_stepTotal_18 (by assumption) (by omega) (by first | decide | omega) (hrf k (by omega)) ?_
      refine aw_geti' (j := 1) dX5_stepTotal_19 fX5_43 rfl (by assumption) rfl hP.2.2.1 ?_
      refine aw_iadd dX5_stepTotal_22 ?_
      refine aw_istore_n (ls1 := [(1, _), (0, _), (2, _)]) dX5_stepTotal_23 (by decide) rfl ?_
      refine aw_iinc (k9 := 2) (ls1 := [(2, _), (1, _), (0, _)]) dX5_stepTotal_24 rfl (by decide) rfl ?_
      refine aw_goto (tgt := 4) dX5_stepTotal_27 rfl ?_
      refine aw_sub [2, 1, 0] rfl ?_
      exact ih'
theorem c_qst {γ : GG} {h : AH} {a : Nat} {π : Nat → Nat} {ρ : Nat → Nat → Nat} {q : TQ} (hQ : isQ h a π ρ q) : Call γ mX5_stepTotal 0 0 0 [vr (some a)] h (rV (vi ((q.map (fun t => t.2.length)).sum : Nat)) h) := by
  refine Call.of (ls := [(0, vr (some a))]) vX5_stepTotal.1 (Nat.le_of_ble_eq_true rfl) rfl ?_
  refine aw_iconst dX5_stepTotal_0 ?_
  refine aw_istore_n (ls1 := [(1, _), (0, _)]) dX5_stepTotal_1 (by decide) rfl ?_
  refine aw_iconst dX5_stepTotal_2 ?_
  refine aw_istore_n (ls1 := [(2, _), (1, _), (0, _)]) dX5_stepTotal_3 (by decide) rfl ?_
  refine aw_sub [2, 1, 0] rfl ?_
  exact l_qst hQ q.length 0 (by omega)
theorem i_qpt {γ : GG} {h : AH} {a : Nat} {π : Nat → Nat} {ρ : Nat → Nat → Nat} {q : TQ} {t : TT} {k O : Nat} {Q : AR → AH → Prop} (hQ : isQ h a π ρ q) (ht : q[k]? = some t) (kk : AW γ mX5_predicateTotal 0 0 0 50 [(0, vr (some a)), (1, vi ((O + (t.2.map (fun s : TS => s.2.length)).sum : Nat))), (2, vi (k : Int))] [] h Q) : ∀ (m j : Nat), j + m = t.2.length → AW γ mX5_predicateTotal 0 0 0 14 [(0, vr (some a)), (1, vi ((O + ((t.2.take j).map (fun s : TS => s.2.length)).sum : Nat))), (2, vi (k : Int)), (3, vi (j : Int))] [] h Q := by
  obtain ⟨⟨hk, hr, hk1, hπ, hrf, hst⟩, h0, hl4, hss⟩ := hQ
  have lk := (List.getElem?_eq_some_iff.mp ht).1
  have hP := hss k t ht
  have l8 := hP.2.2.2.1
  have s1 := hP.1.1
  intro m
  induction m with
  | zero =>
    intro j hjm
    rw [show j = t.2.length by omega, List.take_length]
    refine aw_iload_n dX5_predicateTotal_14 rfl ?_
    refine aw_aload_n dX5_predicateTotal_15 rfl ?_
    refine aw_getr' (j := 1) dX5_predicateTotal_16 fX5_17 rfl (by assumption) rfl (by assumption) ?_
    refine aw_iload_n dX5_predicateTotal_19 rfl ?_
    refine aw_aald4' dX5_predicateTotal_20 (by assumption) (by omega) (by first | decide | omega) (hrf k (by omega)) ?_
    refine aw_geti' (j := 1) dX5_predicateTotal_21 fX5_43 rfl (by assumption) rfl hP.2.2.1 ?_
    refine aw_ic_ge (tgt := 50) dX5_predicateTotal_24 rfl (by omega) (by omega) (fun c24 => ?_) (fun c24 => ?_)
    · refine aw_sub [0, 1, 2] rfl ?_
      exact kk
    · exact absurd c24 (by omega)
  | succ m ih =>
    intro j hjm
    obtain ⟨s, hs⟩ : ∃ s, t.2[j]? = some s := ⟨_, List.getElem?_eq_getElem (by omega)⟩
    have ih' := ih (j + 1) (by omega)
    rw [take_sum _ hs, ← Nat.add_assoc, Int.natCast_add (O + _)] at ih'
    have hS := hP.2.2.2.2 j s hs
    have s2 := hS.1.1
    refine aw_iload_n dX5_predicateTotal_14 rfl ?_
    refine aw_aload_n dX5_predicateTotal_15 rfl ?_
    refine aw_getr' (j := 1) dX5_predicateTotal_16 fX5_17 rfl (by assumption) rfl (by assumption) ?_
    refine aw_iload_n dX5_predicateTotal_19 rfl ?_
    refine aw_aald4' dX5_predicateTotal_20 (by assumption) (by omega) (by first | decide | omega) (hrf k (by omega)) ?_
    refine aw_geti' (j := 1) dX5_predicateTotal_21 fX5_43 rfl (by assumption) rfl hP.2.2.1 ?_
    refine aw_ic_ge (tgt := 50) dX5_predicateTotal_24 rfl (by omega) (by omega) (fun c24 => ?_) (fun c24 => ?_)
    · exact absurd c24 (by omega)
    · refine aw_iload_n dX5_predicateTotal_27 rfl ?_
      refine aw_aload_n dX5_predicateTotal_28 rfl ?_
      refine aw_getr' (j := 1) dX5_predicateTotal_29 fX5_17 rfl (by assumption) rfl (by assumption) ?_
      refine aw_iload_n dX5_predicateTotal_32 rfl ?_
      refine aw_aald4' dX5_predicateTotal_33 (by assumption) (by omega) (by first | decide | omega) (hrf k (by omega)) ?_
      refine aw_getr' (j := 2) dX5_predicateTotal_34 fX5_44 rfl (by assumption) rfl (by exact hP.1.2.1) ?_
      refine aw_iload_n dX5_predicateTotal_37 rfl ?_
      refine aw_aald7' dX5_predicateTotal_38 (by exact hP.1.2.2.1) (by omega) (by first | decide | omega) (hP.1.2.2.2.2.1 j (by omega)) ?_
      refine aw_geti' (j := 2) dX5_predicateTotal_39 fX5_48 rfl (by assumption) rfl hS.2.2.2.1 ?_
      refine aw_iadd dX5_predicateTotal_42 ?_
      refine aw_istore_n (ls1 := [(1, _), (0, _), (2, _), (3, _)]) dX5_predicateTotal_43 (by decide) rfl ?_
      refine aw_iinc (k9 := 3) (ls1 := [(3, _), (1, _), (0, _), (2, _)]) dX5_predicateTotal_44 rfl (by decide) rfl ?_
      refine aw_goto (tgt := 14) dX5_predicateTotal_47 rfl ?_
      refine aw_sub [2, 1, 3, 0] rfl ?_
      exact ih'
theorem l_qpt {γ : GG} {h : AH} {a : Nat} {π : Nat → Nat} {ρ : Nat → Nat → Nat} {q : TQ} (hQ : isQ h a π ρ q) : ∀ (m k : Nat), k + m = q.length → AW γ mX5_predicateTotal 0 0 0 4 [(0, vr (some a)), (1, vi (((q.take k).map nPred).sum : Nat)), (2, vi (k : Int))] [] h (rV (vi ((q.map nPred).sum : Nat)) h) := by
  have hQ0 := hQ
  obtain ⟨⟨hk, hr, hk1, hπ, hrf, hst⟩, h0, hl4, hss⟩ := hQ
  intro m
  induction m with
  | zero =>
    intro k hkm
    rw [show k = q.length by omega, List.take_length]
    refine aw_iload_n dX5_predicateTotal_4 rfl ?_
    refine aw_aload_n dX5_predicateTotal_5 rfl ?_
    refine aw_geti' (j := 0) dX5_predicateTotal_6 fX5_9 rfl (by assumption) rfl h0 ?_
    refine aw_ic_ge (tgt := 56) dX5_predicateTotal_9 rfl (by omega) (by omega) (fun c9 => ?_) (fun c9 => ?_)
    · refine aw_iload_n dX5_predicateTotal_56 rfl ?_
      exact aw_ireturn dX5_predicateTotal_57 rfl (Or.inl rfl) ⟨rfl, rfl⟩
    · exact absurd c9 (by omega)
  | succ m ih =>
    intro k hkm
    obtain ⟨t, ht⟩ : ∃ t, q[k]? = some t := ⟨_, List.getElem?_eq_getElem (by omega)⟩
    have ih' := ih (k + 1) (by omega)
    rw [take_sum _ ht] at ih'
    have K : AW γ mX5_predicateTotal 0 0 0 50 [(0, vr (some a)), (1, vi ((((q.take k).map nPred).sum + (t.2.map (fun s : TS => s.2.length)).sum : Nat))), (2, vi (k : Int))] [] h (rV (vi ((q.map nPred).sum : Nat)) h) := by
      refine aw_iinc (k9 := 2) (ls1 := [(2, _), (0, _), (1, _)]) dX5_predicateTotal_50 rfl (by decide) rfl ?_
      refine aw_goto (tgt := 4) dX5_predicateTotal_53 rfl ?_
      refine aw_sub [1, 2, 0] rfl ?_
      exact ih'
    have K2 := i_qpt hQ0 ht K t.2.length 0 (by omega)
    refine aw_iload_n dX5_predicateTotal_4 rfl ?_
    refine aw_aload_n dX5_predicateTotal_5 rfl ?_
    refine aw_geti' (j := 0) dX5_predicateTotal_6 fX5_9 rfl (by assumption) rfl h0 ?_
    refine aw_ic_ge (tgt := 56) dX5_predicateTotal_9 rfl (by omega) (by omega) (fun c9 => ?_) (fun c9 => ?_)
    · exact absurd c9 (by omega)
    · refine aw_iconst dX5_predicateTotal_12 ?_
      refine aw_istore_n (ls1 := [(3, _), (0, _), (1, _), (2, _)]) dX5_predicateTotal_13 (by decide) rfl ?_
      refine aw_sub [1, 2, 3, 0] rfl ?_
      exact K2
theorem c_qpt {γ : GG} {h : AH} {a : Nat} {π : Nat → Nat} {ρ : Nat → Nat → Nat} {q : TQ} (hQ : isQ h a π ρ q) : Call γ mX5_predicateTotal 0 0 0 [vr (some a)] h (rV (vi ((q.map nPred).sum : Nat)) h) := by
  refine Call.of (ls := [(0, vr (some a))]) vX5_predicateTotal.1 (Nat.le_of_ble_eq_true rfl) rfl ?_
  refine aw_iconst dX5_predicateTotal_0 ?_
  refine aw_istore_n (ls1 := [(1, _), (0, _)]) dX5_predicateTotal_1 (by decide) rfl ?_
  refine aw_iconst dX5_predicateTotal_2 ?_
  refine aw_istore_n (ls1 := [(2, _), (1, _), (0, _)]) dX5_predicateTotal_3 (by decide) rfl ?_
  refine aw_sub [2, 1, 0] rfl ?_
  exact l_qpt hQ q.length 0 (by omega)
theorem i_qct {γ : GG} {h : AH} {a : Nat} {π : Nat → Nat} {ρ : Nat → Nat → Nat} {q : TQ} {t : TT} {k O : Nat} {Q : AR → AH → Prop} (hQ : isQ h a π ρ q) (ht : q[k]? = some t) (ho : okQ q) (kk : AW γ mX5_conditionTotal 1 0 0 50 [(0, vr (some a)), (1, vi ((O + (t.2.map (nCondS)).sum : Nat))), (2, vi (k : Int))] [] h Q) : ∀ (m j : Nat), j + m = t.2.length → AW γ mX5_conditionTotal 1 0 0 14 [(0, vr (some a)), (1, vi ((O + ((t.2.take j).map (nCondS)).sum : Nat))), (2, vi (k : Int)), (3, vi (j : Int))] [] h Q := by
  obtain ⟨⟨hk, hr, hk1, hπ, hrf, hst⟩, h0, hl4, hss⟩ := hQ
  have lk := (List.getElem?_eq_some_iff.mp ht).1
  have hP := hss k t ht
  have l8 := hP.2.2.2.1
  have s1 := hP.1.1
  intro m
  induction m with
  | zero =>
    intro j hjm
    rw [show j = t.2.length by omega, List.take_length]
    refine aw_iload_n dX5_conditionTotal_14 rfl ?_
    refine aw_aload_n dX5_conditionTotal_15 rfl ?_
    refine aw_getr' (j := 1) dX5_conditionTotal_16 fX5_17 rfl (by assumption) rfl (by assumption) ?_
    refine aw_iload_n dX5_conditionTotal_19 rfl ?_
    refine aw_aald4' dX5_conditionTotal_20 (by assumption) (by omega) (by first | decide | omega) (hrf k (by omega)) ?_
    refine aw_geti' (j := 1) dX5_conditionTotal_21 fX5_43 rfl (by assumption) rfl hP.2.2.1 ?_
    refine aw_ic_ge (tgt := 50) dX5_conditionTotal_24 rfl (by omega) (by omega) (fun c24 => ?_) (fun c24 => ?_)
    · refine aw_sub [0, 1, 2] rfl ?_
      exact kk
    · exact absurd c24 (by omega)
  | succ m ih =>
    intro j hjm
    obtain ⟨s, hs⟩ : ∃ s, t.2[j]? = some s := ⟨_, List.getElem?_eq_getElem (by omega)⟩
    have ih' := ih (j + 1) (by omega)
    rw [take_sum _ hs, ← Nat.add_assoc, Int.natCast_add (O + _)] at ih'
    have hS := hP.2.2.2.2 j s hs
    have s2 := hS.1.1
    have os := (ho.2 t (List.mem_of_getElem? ht)).2.2 s (List.mem_of_getElem? hs)
    refine aw_iload_n dX5_conditionTotal_14 rfl ?_
    refine aw_aload_n dX5_conditionTotal_15 rfl ?_
    refine aw_getr' (j := 1) dX5_conditionTotal_16 fX5_17 rfl (by assumption) rfl (by assumption) ?_
    refine aw_iload_n dX5_conditionTotal_19 rfl ?_
    refine aw_aald4' dX5_conditionTotal_20 (by assumption) (by omega) (by first | decide | omega) (hrf k (by omega)) ?_
    refine aw_geti' (j := 1) dX5_conditionTotal_21 fX5_43 rfl (by assumption) rfl hP.2.2.1 ?_
    refine aw_ic_ge (tgt := 50) dX5_conditionTotal_24 rfl (by omega) (by omega) (fun c24 => ?_) (fun c24 => ?_)
    · exact absurd c24 (by omega)
    · refine aw_iload_n dX5_conditionTotal_27 rfl ?_
      refine aw_aload_n dX5_conditionTotal_28 rfl ?_
      refine aw_getr' (j := 1) dX5_conditionTotal_29 fX5_17 rfl (by assumption) rfl (by assumption) ?_
      refine aw_iload_n dX5_conditionTotal_32 rfl ?_
      refine aw_aald4' dX5_conditionTotal_33 (by assumption) (by omega) (by first | decide | omega) (hrf k (by omega)) ?_
      refine aw_getr' (j := 2) dX5_conditionTotal_34 fX5_44 rfl (by assumption) rfl (by exact hP.1.2.1) ?_
      refine aw_iload_n dX5_conditionTotal_37 rfl ?_
      refine aw_aald7' dX5_conditionTotal_38 (by exact hP.1.2.2.1) (by omega) (by first | decide | omega) (hP.1.2.2.2.2.1 j (by omega)) ?_
      refine aw_invV_r dX5_conditionTotal_39 vX8_conditionTotal kX5_53 rfl (c_sct hS os) ⟨_, (by assumption), _, _, rfl⟩ rfl rfl (by decide) (by decide) (by decide) (Nat.le_of_ble_eq_true rfl) ?_
      refine aw_iadd dX5_conditionTotal_42 ?_
      refine aw_istore_n (ls1 := [(1, _), (0, _), (2, _), (3, _)]) dX5_conditionTotal_43 (by decide) rfl ?_
      refine aw_iinc (k9 := 3) (ls1 := [(3, _), (1, _), (0, _), (2, _)]) dX5_conditionTotal_44 rfl (by decide) rfl ?_
      refine aw_goto (tgt := 14) dX5_conditionTotal_47 rfl ?_
      refine aw_sub [2, 1, 3, 0] rfl ?_
      exact ih'
theorem l_qct {γ : GG} {h : AH} {a : Nat} {π : Nat → Nat} {ρ : Nat → Nat → Nat} {q : TQ} (hQ : isQ h a π ρ q) (ho : okQ q) : ∀ (m k : Nat), k + m = q.length → AW γ mX5_conditionTotal 1 0 0 4 [(0, vr (some a)), (1, vi (((q.take k).map nCond).sum : Nat)), (2, vi (k : Int))] [] h (rV (vi ((q.map nCond).sum : Nat)) h) := by
  have hQ0 := hQ
  obtain ⟨⟨hk, hr, hk1, hπ, hrf, hst⟩, h0, hl4, hss⟩ := hQ
  intro m
  induction m with
  | zero =>
    intro k hkm
    rw [show k = q.length by omega, List.take_length]
    refine aw_iload_n dX5_conditionTotal_4 rfl ?_
    refine aw_aload_n dX5_conditionTotal_5 rfl ?_
    refine aw_geti' (j := 0) dX5_conditionTotal_6 fX5_9 rfl (by assumption) rfl h0 ?_
    refine aw_ic_ge (tgt := 56) dX5_conditionTotal_9 rfl (by omega) (by omega) (fun c9 => ?_) (fun c9 => ?_)
    · refine aw_iload_n dX5_conditionTotal_56 rfl ?_
      exact aw_ireturn dX5_conditionTotal_57 rfl (Or.inl rfl) ⟨rfl, rfl⟩
    · exact absurd c9 (by omega)
  | succ m ih =>
    intro k hkm
    obtain ⟨t, ht⟩ : ∃ t, q[k]? = some t := ⟨_, List.getElem?_eq_getElem (by omega)⟩
    have ih' := ih (k + 1) (by omega)
    rw [take_sum _ ht] at ih'
    have K : AW γ mX5_conditionTotal 1 0 0 50 [(0, vr (some a)), (1, vi ((((q.take k).map nCond).sum + (t.2.map (nCondS)).sum : Nat))), (2, vi (k : Int))] [] h (rV (vi ((q.map nCond).sum : Nat)) h) := by
      refine aw_iinc (k9 := 2) (ls1 := [(2, _), (0, _), (1, _)]) dX5_conditionTotal_50 rfl (by decide) rfl ?_
      refine aw_goto (tgt := 4) dX5_conditionTotal_53 rfl ?_
      refine aw_sub [1, 2, 0] rfl ?_
      exact ih'
    have K2 := i_qct hQ0 ht ho K t.2.length 0 (by omega)
    refine aw_iload_n dX5_conditionTotal_4 rfl ?_
    refine aw_aload_n dX5_conditionTotal_5 rfl ?_
    refine aw_geti' (j := 0) dX5_conditionTotal_6 fX5_9 rfl (by assumption) rfl h0 ?_
    refine aw_ic_ge (tgt := 56) dX5_conditionTotal_9 rfl (by omega) (by omega) (fun c9 => ?_) (fun c9 => ?_)
    · exact absurd c9 (by omega)
    · refine aw_iconst dX5_conditionTotal_12 ?_
      refine aw_istore_n (ls1 := [(3, _), (0, _), (1, _), (2, _)]) dX5_conditionTotal_13 (by decide) rfl ?_
      refine aw_sub [1, 2, 3, 0] rfl ?_
      exact K2
theorem c_qct {γ : GG} {h : AH} {a : Nat} {π : Nat → Nat} {ρ : Nat → Nat → Nat} {q : TQ} (hQ : isQ h a π ρ q) (ho : okQ q) : Call γ mX5_conditionTotal 1 0 0 [vr (some a)] h (rV (vi ((q.map nCond).sum : Nat)) h) := by
  refine Call.of (ls := [(0, vr (some a))]) vX5_conditionTotal.1 (Nat.le_of_ble_eq_true rfl) rfl ?_
  refine aw_iconst dX5_conditionTotal_0 ?_
  refine aw_istore_n (ls1 := [(1, _), (0, _)]) dX5_conditionTotal_1 (by decide) rfl ?_
  refine aw_iconst dX5_conditionTotal_2 ?_
  refine aw_istore_n (ls1 := [(2, _), (1, _), (0, _)]) dX5_conditionTotal_3 (by decide) rfl ?_
  refine aw_sub [2, 1, 0] rfl ?_
  exact l_qct hQ ho q.length 0 (by omega)
