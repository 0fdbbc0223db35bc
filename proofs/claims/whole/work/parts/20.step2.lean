/-! ===== Step, further ===== -/
theorem ct_len {α : Type} (l : List α) : ∀ n, fb_ct (fun k => (l[k]?).isSome) n = min l.length n := by
  intro n
  induction n with
  | zero => simp [fb_ct]
  | succ n ih =>
    rw [fb_ct_succ, ih]
    by_cases h : n < l.length
    · rw [if_pos (by simp [h])]; omega
    · rw [if_neg (by simp; omega)]; omega
theorem ct_none {f : Nat → Bool} {n : Nat} (h : ∀ k, k < n → f k = false) : fb_ct f n = 0 := fb_ct_zero.mpr h
theorem ct_alt (p : TP) (hp : okP p) (i : Nat) : fb_ct (fun k => ((p[(3 * i + k) / 3]?).bind fun a => a[(3 * i + k) % 3]?).isSome) 3 = match p[i]? with | none => 0 | some a => a.length := by
  have e : ∀ k, k < 3 → ((p[(3 * i + k) / 3]?).bind fun a => a[(3 * i + k) % 3]?).isSome = ((p[i]?).bind fun a => a[k]?).isSome := fun k hk => by
    rw [show (3 * i + k) / 3 = i by omega, show (3 * i + k) % 3 = k by omega]
  rw [fb_ct_cong e]
  cases ha : p[i]? with
  | none => exact ct_none (fun k _ => rfl)
  | some a =>
    have := (hp.2.2 a (List.mem_of_getElem? ha)).2.1
    show fb_ct (fun k => (a[k]?).isSome) 3 = a.length
    rw [ct_len]
    omega
theorem ct_pred (p : TP) (hp : okP p) : fb_ct (fun k => ((p[k / 3]?).bind fun a => a[k % 3]?).isSome) 9 = nCondP p := by
  have h0 := ct_alt p hp 0
  have h1 := ct_alt p hp 1
  have h2 := ct_alt p hp 2
  have s1 := fb_ct_split (fun k => ((p[k / 3]?).bind fun a => a[k % 3]?).isSome) 3 6
  have s2 := fb_ct_split (fun k => ((p[(3 + k) / 3]?).bind fun a => a[(3 + k) % 3]?).isSome) 3 3
  have e2 : fb_ct (fun k => ((p[(3 + (3 + k)) / 3]?).bind fun a => a[(3 + (3 + k)) % 3]?).isSome) 3 = fb_ct (fun k => ((p[(3 * 2 + k) / 3]?).bind fun a => a[(3 * 2 + k) % 3]?).isSome) 3 := fb_ct_cong (fun k _ => by rw [show 3 + (3 + k) = 3 * 2 + k by omega])
  have e1 : fb_ct (fun k => ((p[(3 + k) / 3]?).bind fun a => a[(3 + k) % 3]?).isSome) 3 = fb_ct (fun k => ((p[(3 * 1 + k) / 3]?).bind fun a => a[(3 * 1 + k) % 3]?).isSome) 3 := rfl
  have e0 : fb_ct (fun k => ((p[k / 3]?).bind fun a => a[k % 3]?).isSome) 3 = fb_ct (fun k => ((p[(3 * 0 + k) / 3]?).bind fun a => a[(3 * 0 + k) % 3]?).isSome) 3 := fb_ct_cong (fun k _ => by rw [show 3 * 0 + k = k by omega])
  have hl := hp.2.1
  rw [show (9 : Nat) = 3 + 6 from rfl, s1, show (6 : Nat) = 3 + 3 from rfl, s2, e0, e1, e2, h0, h1, h2]
  match p, hp with
  | [], hp => have := hp.1; simp at this
  | [a], _ => simp [nCondP]
  | [a, b], _ => simp [nCondP]
  | [a, b, c], _ => simp [nCondP]
  | a :: b :: c :: d :: r, hp => have := hp.2.1; simp at this
theorem cAt_cons (p : TP) (ps : List TP) (k : Nat) : cAt (p :: ps) k = if k < 9 then (p[k / 3]?).bind fun a => a[k % 3]? else cAt ps (k - 9) := by
  unfold cAt
  by_cases h : k < 9
  · rw [if_pos h, show k / 9 = 0 by omega, show k % 9 / 3 = k / 3 by omega]
    rfl
  · rw [if_neg h, show k / 9 = (k - 9) / 9 + 1 by omega, List.getElem?_cons_succ, show k % 9 / 3 = (k - 9) % 9 / 3 by omega, show k % 3 = (k - 9) % 3 by omega]
theorem ct_step : ∀ (ps : List TP) (n : Nat), (∀ p ∈ ps, okP p) → 9 * ps.length ≤ n → fb_ct (fun k => (cAt ps k).isSome) n = (ps.map nCondP).sum := by
  intro ps
  induction ps with
  | nil => intro n _ _; exact ct_none (fun k _ => by simp [cAt])
  | cons p ps ih =>
    intro n h hn
    simp only [List.length_cons] at hn
    obtain ⟨m, rfl⟩ : ∃ m, n = 9 + m := ⟨n - 9, by omega⟩
    rw [fb_ct_split]
    have e1 : fb_ct (fun k => (cAt (p :: ps) k).isSome) 9 = nCondP p := by
      rw [← ct_pred p (h p List.mem_cons_self)]
      exact fb_ct_cong (fun k hk => by rw [cAt_cons, if_pos hk])
    have e2 : fb_ct (fun k => (cAt (p :: ps) (9 + k)).isSome) m = fb_ct (fun k => (cAt ps k).isSome) m := fb_ct_cong (fun k hk => by rw [cAt_cons, if_neg (by omega), Nat.add_sub_cancel_left])
    rw [e1, e2, ih m (fun q hq => h q (List.mem_cons_of_mem _ hq)) (by omega)]
    simp
theorem slot_nz {ps : List TP} (h : ∀ p ∈ ps, okP p) (k : Nat) : slotv ps k = 0 ↔ cAt ps k = none := by
  rw [slotv_at]
  cases hc : cAt ps k with
  | none => simp
  | some c => have := pk_bd (cAt_ok h hc).1; simp; omega
theorem l_sct {γ : GG} {h : AH} {a : Nat} {s : TS} (hS : isS h a s) (hs : okS s) : ∀ (m k : Nat), k + m = 27 → AW γ mX8_conditionTotal 0 0 0 4 [(0, vr (some a)), (1, vi (fb_ct (fun k => (cAt s.2 k).isSome) k : Nat)), (2, vi (k : Int))] [] h (rV (vi (nCondS s : Nat)) h) := by
  obtain ⟨⟨hk, hr, hk1⟩, h0, h1, h2, h3⟩ := hS
  intro m
  induction m with
  | zero =>
    intro k hkm
    have e : fb_ct (fun k => (cAt s.2 k).isSome) k = nCondS s := ct_step s.2 k hs.2.2 (by have := hs.2.1; omega)
    rw [e]
    refine aw_iload_n dX8_conditionTotal_4 rfl ?_
    refine aw_bipush dX8_conditionTotal_5 rfl ?_
    refine aw_ic_ge (tgt := 28) dX8_conditionTotal_7 rfl (by omega) (by omega) (fun c7 => ?_) (fun c7 => ?_)
    · refine aw_iload_n dX8_conditionTotal_28 rfl ?_
      exact aw_ireturn dX8_conditionTotal_29 rfl (Or.inl rfl) ⟨rfl, rfl⟩
    · exact absurd c7 (by omega)
  | succ m ih =>
    intro k hkm
    have hb := slotv_bd hs.2.2 k
    have ih' := ih (k + 1) (by omega)
    rw [fb_ct_succ] at ih'
    have hct := fb_ct_le (fun k => (cAt s.2 k).isSome) k
    by_cases hc : cAt s.2 k = none
    · have hz := (slot_nz hs.2.2 k).mpr hc
      rw [hc] at ih'
      refine aw_iload_n dX8_conditionTotal_4 rfl ?_
      refine aw_bipush dX8_conditionTotal_5 rfl ?_
      refine aw_ic_ge (tgt := 28) dX8_conditionTotal_7 rfl (by omega) (by omega) (fun c7 => ?_) (fun c7 => ?_)
      · exact absurd c7 (by omega)
      · refine aw_aload_n dX8_conditionTotal_10 rfl ?_
        refine aw_getr' (j := 3) dX8_conditionTotal_11 fX8_21 rfl (by assumption) rfl (by assumption) ?_
        refine aw_iload_n dX8_conditionTotal_14 rfl ?_
        refine aw_iald' dX8_conditionTotal_15 (by assumption) (by omega) (by first | decide | omega) (h3 k (by omega)) ?_
        refine aw_if_eq (tgt := 22) dX8_conditionTotal_16 rfl (by omega) (fun c16 => ?_) (fun c16 => ?_)
        · refine aw_iinc (k9 := 2) (ls1 := [(2, _), (0, _), (1, _)]) dX8_conditionTotal_22 rfl (by decide) rfl ?_
          refine aw_goto (tgt := 4) dX8_conditionTotal_25 rfl ?_
          refine aw_sub [1, 2, 0] rfl ?_
          exact ih'
        · exact absurd c16 (by omega)
    · have hz : slotv s.2 k ≠ 0 := fun z => hc ((slot_nz hs.2.2 k).mp z)
      have e : (cAt s.2 k).isSome = true := Option.isSome_iff_ne_none.mpr hc
      rw [e] at ih'
      refine aw_iload_n dX8_conditionTotal_4 rfl ?_
      refine aw_bipush dX8_conditionTotal_5 rfl ?_
      refine aw_ic_ge (tgt := 28) dX8_conditionTotal_7 rfl (by omega) (by omega) (fun c7 => ?_) (fun c7 => ?_)
      · exact absurd c7 (by omega)
      · refine aw_aload_n dX8_conditionTotal_10 rfl ?_
        refine aw_getr' (j := 3) dX8_conditionTotal_11 fX8_21 rfl (by assumption) rfl (by assumption) ?_
        refine aw_iload_n dX8_conditionTotal_14 rfl ?_
        refine aw_iald' dX8_conditionTotal_15 (by assumption) (by omega) (by first | decide | omega) (h3 k (by omega)) ?_
        refine aw_if_eq (tgt := 22) dX8_conditionTotal_16 rfl (by omega) (fun c16 => ?_) (fun c16 => ?_)
        · exact absurd c16 (by omega)
        · refine aw_iinc (k9 := 1) (ls1 := [(1, _), (0, _), (2, _)]) dX8_conditionTotal_19 rfl (by decide) rfl ?_
          refine aw_iinc (k9 := 2) (ls1 := [(2, _), (1, _), (0, _)]) dX8_conditionTotal_22 rfl (by decide) rfl ?_
          refine aw_goto (tgt := 4) dX8_conditionTotal_25 rfl ?_
          refine aw_sub [2, 1, 0] rfl ?_
          exact ih'
theorem c_sct {γ : GG} {h : AH} {a : Nat} {s : TS} (hS : isS h a s) (hs : okS s) : Call γ mX8_conditionTotal 0 0 0 [vr (some a)] h (rV (vi (nCondS s : Nat)) h) := by
  refine Call.of (ls := [(0, vr (some a))]) vX8_conditionTotal.1 (Nat.le_of_ble_eq_true rfl) rfl ?_
  refine aw_iconst dX8_conditionTotal_0 ?_
  refine aw_istore_n (ls1 := [(1, _), (0, _)]) dX8_conditionTotal_1 (by decide) rfl ?_
  refine aw_iconst dX8_conditionTotal_2 ?_
  refine aw_istore_n (ls1 := [(2, _), (1, _), (0, _)]) dX8_conditionTotal_3 (by decide) rfl ?_
  refine aw_sub [2, 1, 0] rfl ?_
  exact l_sct hS hs 27 0 (by omega)
theorem c_setC {γ : GG} {h : AH} {a : Nat} {k z : Int} (hS : shS h a) (hk9 : 0 ≤ k ∧ k < 27) : Call γ mX8_setCondition 0 0 0 [vr (some a), vi k, vi z] h (rN (si h (a + 1) k z)) := by
  obtain ⟨hk, hr, hk1⟩ := hS
  refine Call.of (ls := [(0, vr (some a)), (1, vi k), (2, vi z)]) vX8_setCondition.1 (Nat.le_of_ble_eq_true rfl) rfl ?_
  refine aw_iload_n dX8_setCondition_0 rfl ?_
  refine aw_if_lt (tgt := 17) dX8_setCondition_1 rfl (by omega) (fun c1 => ?_) (fun c1 => ?_)
  · exact absurd c1 (by omega)
  · refine aw_iload_n dX8_setCondition_4 rfl ?_
    refine aw_bipush dX8_setCondition_5 rfl ?_
    refine aw_ic_ge (tgt := 17) dX8_setCondition_7 rfl (by omega) (by omega) (fun c7 => ?_) (fun c7 => ?_)
    · exact absurd c7 (by omega)
    · refine aw_aload_n dX8_setCondition_10 rfl ?_
      refine aw_getr' (j := 3) dX8_setCondition_11 fX8_21 rfl (by assumption) rfl (by assumption) ?_
      refine aw_iload_n dX8_setCondition_14 rfl ?_
      refine aw_iload_n dX8_setCondition_15 rfl ?_
      refine aw_iast dX8_setCondition_16 (by assumption) (by omega) (by first | decide | omega) ?_
      exact aw_return dX8_setCondition_17 rfl (Or.inl rfl) ⟨rfl, rfl⟩
theorem c_cAt {γ : GG} {h : AH} {a : Nat} {k : Int} (hS : shS h a) (hk9 : -2147483648 ≤ k ∧ k ≤ 2147483647) : Call γ mX8_conditionAt 0 0 0 [vr (some a), vi k] h (rV (vi (if 0 ≤ k ∧ k < 27 then gi h (a + 1) k else 0)) h) := by
  obtain ⟨hk, hr, hk1⟩ := hS
  refine Call.of (ls := [(0, vr (some a)), (1, vi k)]) vX8_conditionAt.1 (Nat.le_of_ble_eq_true rfl) rfl ?_
  refine aw_iload_n dX8_conditionAt_0 rfl ?_
  refine aw_if_lt (tgt := 19) dX8_conditionAt_1 rfl (by omega) (fun c1 => ?_) (fun c1 => ?_)
  · refine aw_iconst dX8_conditionAt_19 ?_
    exact aw_ireturn dX8_conditionAt_20 rfl (Or.inl rfl) ⟨by congr 3; first | (rw [if_pos (by omega)]; done) | (rw [if_neg (by omega)]), rfl⟩
  · refine aw_iload_n dX8_conditionAt_4 rfl ?_
    refine aw_bipush dX8_conditionAt_5 rfl ?_
    refine aw_ic_ge (tgt := 19) dX8_conditionAt_7 rfl (by omega) (by omega) (fun c7 => ?_) (fun c7 => ?_)
    · refine aw_iconst dX8_conditionAt_19 ?_
      exact aw_ireturn dX8_conditionAt_20 rfl (Or.inl rfl) ⟨by congr 3; first | (rw [if_pos (by omega)]; done) | (rw [if_neg (by omega)]), rfl⟩
    · refine aw_aload_n dX8_conditionAt_10 rfl ?_
      refine aw_getr' (j := 3) dX8_conditionAt_11 fX8_21 rfl (by assumption) rfl (by assumption) ?_
      refine aw_iload_n dX8_conditionAt_14 rfl ?_
      refine aw_iald' dX8_conditionAt_15 (by assumption) (by omega) (by first | decide | omega) rfl ?_
      refine aw_goto (tgt := 20) dX8_conditionAt_16 rfl ?_
      exact aw_ireturn dX8_conditionAt_20 rfl (Or.inl rfl) ⟨by congr 3; first | (rw [if_pos (by omega)]; done) | (rw [if_neg (by omega)]), rfl⟩
theorem c_openP {γ : GG} {h : AH} {a : Nat} (hS : shS h a) (hp : 0 ≤ gi h a 2 ∧ gi h a 2 ≤ 3) : Call γ mX8_openPredicate 0 0 0 [vr (some a)] h (rV (vi (gi h a 2 * 9)) (si h a 2 (gi h a 2 + 1))) := by
  obtain ⟨hk, hr, hk1⟩ := hS
  refine Call.of (ls := [(0, vr (some a))]) vX8_openPredicate.1 (Nat.le_of_ble_eq_true rfl) rfl ?_
  refine aw_aload_n dX8_openPredicate_0 rfl ?_
  refine aw_geti' (j := 2) dX8_openPredicate_1 fX8_18 rfl (by assumption) rfl rfl ?_
  refine aw_bipush dX8_openPredicate_4 rfl ?_
  refine aw_imul dX8_openPredicate_6 ?_
  refine aw_istore_n (ls1 := [(1, _), (0, _)]) dX8_openPredicate_7 (by decide) rfl ?_
  refine aw_aload_n dX8_openPredicate_8 rfl ?_
  refine aw_dup dX8_openPredicate_9 rfl ?_
  refine aw_geti' (j := 2) dX8_openPredicate_10 fX8_18 rfl (by assumption) rfl rfl ?_
  refine aw_iconst dX8_openPredicate_13 ?_
  refine aw_iadd dX8_openPredicate_14 ?_
  refine aw_puti' (j := 2) rfl dX8_openPredicate_15 fX8_18 (by assumption) rfl ?_
  refine aw_iload_n dX8_openPredicate_18 rfl ?_
  exact aw_ireturn dX8_openPredicate_19 rfl (Or.inl rfl) ⟨rfl, rfl⟩
/-- a gap closed, up to a place -/
def hGap (h : AH) (a : Nat) (f v e s : Int) : AH := (h.1, (fun b k => if b = a + 1 ∧ f ≤ k ∧ k < s then (if k + v < e then gi h (a + 1) (k + v) else 0) else h.2.1 b k), h.2.2)
theorem gi_hGap (h : AH) (a : Nat) (f v e s : Int) (b : Nat) (k : Int) : gi (hGap h a f v e s) b k = if b = a + 1 ∧ f ≤ k ∧ k < s then (if k + v < e then gi h (a + 1) (k + v) else 0) else gi h b k := rfl
theorem hGap_0 (h : AH) (a : Nat) (f v e : Int) : hGap h a f v e f = h := by
  unfold hGap
  have : (fun (b : Nat) (k : Int) => if b = a + 1 ∧ f ≤ k ∧ k < f then (if k + v < e then gi h (a + 1) (k + v) else 0) else h.2.1 b k) = h.2.1 := by
    funext b k
    rw [if_neg (by omega)]
  rw [this]
theorem hGap_s {h : AH} {a : Nat} {f v e s z : Int} (hv : 1 ≤ v) (hfs : f ≤ s) (hz : z = if s + v < e then gi h (a + 1) (s + v) else 0) : si (hGap h a f v e s) (a + 1) s z = hGap h a f v e (s + 1) := by
  subst hz
  unfold hGap si
  have : (fun (b : Nat) (k : Int) => if b = a + 1 ∧ k = s then (if s + v < e then gi h (a + 1) (s + v) else 0) else if b = a + 1 ∧ f ≤ k ∧ k < s then (if k + v < e then gi h (a + 1) (k + v) else 0) else h.2.1 b k) = fun b k => if b = a + 1 ∧ f ≤ k ∧ k < s + 1 then (if k + v < e then gi h (a + 1) (k + v) else 0) else h.2.1 b k := by
    funext b k
    by_cases q1 : b = a + 1 ∧ k = s
    · obtain ⟨q1, q2⟩ := q1
      subst q1; subst q2
      rw [if_pos ⟨rfl, rfl⟩]
      exact (if_pos (show a + 1 = a + 1 ∧ f ≤ k ∧ k < k + 1 from ⟨rfl, hfs, by omega⟩)).symm
    · rw [if_neg q1]
      by_cases q2 : b = a + 1 ∧ f ≤ k ∧ k < s
      · rw [if_pos q2]
        exact (if_pos (show b = a + 1 ∧ f ≤ k ∧ k < s + 1 by omega)).symm
      · rw [if_neg q2, if_neg (by omega)]
  show (_, _, _) = (_, _, _)
  rw [← this]
theorem l_gap {γ : GG} {h : AH} {a : Nat} {f v e : Int} (hS : shS h a) (hf : 0 ≤ f) (hv : 1 ≤ v ∧ v ≤ 27) (he : e ≤ 27) : ∀ (m : Nat) (s : Int), f ≤ s → s + m = e → AW γ mX8_closeGap 0 0 0 3 [(0, vr (some a)), (1, vi f), (2, vi v), (3, vi e), (4, vi s)] [] (hGap h a f v e s) (rN (hGap h a f v e e)) := by
  obtain ⟨hk, hr, hk1⟩ := hS
  intro m
  induction m with
  | zero =>
    intro s hfs hs
    have e9 : s = e := by omega
    subst e9
    refine aw_iload dX8_closeGap_3 rfl ?_
    refine aw_iload_n dX8_closeGap_5 rfl ?_
    refine aw_ic_ge (tgt := 43) dX8_closeGap_6 rfl (by omega) (by omega) (fun c6 => ?_) (fun c6 => ?_)
    · exact aw_return dX8_closeGap_43 rfl (Or.inl rfl) ⟨rfl, rfl⟩
    · exact absurd c6 (by omega)
  | succ m ih =>
    intro s hfs hs
    have ih' := ih (s + 1) (by omega) (by omega)
    refine aw_iload dX8_closeGap_3 rfl ?_
    refine aw_iload_n dX8_closeGap_5 rfl ?_
    refine aw_ic_ge (tgt := 43) dX8_closeGap_6 rfl (by omega) (by omega) (fun c6 => ?_) (fun c6 => ?_)
    · exact absurd c6 (by omega)
    · refine aw_aload_n dX8_closeGap_9 rfl ?_
      refine aw_getr' (j := 3) dX8_closeGap_10 fX8_21 rfl (by assumption) rfl (by assumption) ?_
      refine aw_iload dX8_closeGap_13 rfl ?_
      refine aw_iload dX8_closeGap_15 rfl ?_
      refine aw_iload_n dX8_closeGap_17 rfl ?_
      refine aw_iadd dX8_closeGap_18 ?_
      refine aw_iload_n dX8_closeGap_19 rfl ?_
      refine aw_ic_ge (tgt := 35) dX8_closeGap_20 rfl (by omega) (by omega) (fun c20 => ?_) (fun c20 => ?_)
      · refine aw_iconst dX8_closeGap_35 ?_
        refine aw_iast dX8_closeGap_36 (by assumption) (by omega) (by first | decide | omega) ?_
        refine aw_iinc (k9 := 4) (ls1 := [(4, _), (0, _), (1, _), (2, _), (3, _)]) dX8_closeGap_37 rfl (by decide) rfl ?_
        refine aw_goto (tgt := 3) dX8_closeGap_40 rfl ?_
        refine aw_sub [1, 2, 3, 4, 0] rfl ?_
        refine aw_eqh (hGap_s hv.1 hfs (by first | (rw [if_pos (by omega)]; done) | (rw [if_neg (by omega)]))) ?_
        exact ih'
      · refine aw_aload_n dX8_closeGap_23 rfl ?_
        refine aw_getr' (j := 3) dX8_closeGap_24 fX8_21 rfl (by assumption) rfl (by assumption) ?_
        refine aw_iload dX8_closeGap_27 rfl ?_
        refine aw_iload_n dX8_closeGap_29 rfl ?_
        refine aw_iadd dX8_closeGap_30 ?_
        refine aw_iald' dX8_closeGap_31 (by assumption) (by omega) (by first | decide | omega) (z := gi h (a + 1) (s + v)) (by rw [gi_hGap, if_neg (by omega)]) ?_
        refine aw_goto (tgt := 36) dX8_closeGap_32 rfl ?_
        refine aw_iast dX8_closeGap_36 (by assumption) (by omega) (by first | decide | omega) ?_
        refine aw_iinc (k9 := 4) (ls1 := [(4, _), (0, _), (1, _), (2, _), (3, _)]) dX8_closeGap_37 rfl (by decide) rfl ?_
        refine aw_goto (tgt := 3) dX8_closeGap_40 rfl ?_
        refine aw_sub [1, 2, 3, 4, 0] rfl ?_
        refine aw_eqh (hGap_s hv.1 hfs (by first | (rw [if_pos (by omega)]; done) | (rw [if_neg (by omega)]))) ?_
        exact ih'
theorem c_gap {γ : GG} {h : AH} {a : Nat} {f v e : Int} (hS : shS h a) (hf : 0 ≤ f ∧ f ≤ e) (hv : 1 ≤ v ∧ v ≤ 27) (he : e ≤ 27) : Call γ mX8_closeGap 0 0 0 [vr (some a), vi f, vi v, vi e] h (rN (hGap h a f v e e)) := by
  refine Call.of (ls := [(0, vr (some a)), (1, vi f), (2, vi v), (3, vi e)]) vX8_closeGap.1 (Nat.le_of_ble_eq_true rfl) rfl ?_
  refine aw_iload_n dX8_closeGap_0 rfl ?_
  refine aw_istore (ls1 := [(4, _), (0, _), (1, _), (2, _), (3, _)]) dX8_closeGap_1 (by decide) rfl ?_
  refine aw_sub [1, 2, 3, 4, 0] rfl ?_
  refine aw_eqh (hGap_0 h a f v e).symm ?_
  exact l_gap hS hf.1 hv he (e - f).toNat f (by omega) (by omega)
theorem c_rmP {γ : GG} {h : AH} {a : Nat} {k : Int} (hS : shS h a) (hk9 : 0 ≤ k ∧ k ≤ 2) (hp : 1 ≤ gi h a 2 ∧ gi h a 2 ≤ 3) : Call γ mX8_removePredicate 1 0 0 [vr (some a), vi k] h (rN (si (hGap h a (k * 9) 9 27 27) a 2 (gi h a 2 - 1))) := by
  have hS0 := hS
  obtain ⟨hk, hr, hk1⟩ := hS
  refine Call.of (ls := [(0, vr (some a)), (1, vi k)]) vX8_removePredicate.1 (Nat.le_of_ble_eq_true rfl) rfl ?_
  refine aw_iload_n dX8_removePredicate_0 rfl ?_
  refine aw_bipush dX8_removePredicate_1 rfl ?_
  refine aw_imul dX8_removePredicate_3 ?_
  refine aw_istore_n (ls1 := [(2, _), (0, _), (1, _)]) dX8_removePredicate_4 (by decide) rfl ?_
  refine aw_aload_n dX8_removePredicate_5 rfl ?_
  refine aw_iload_n dX8_removePredicate_6 rfl ?_
  refine aw_bipush dX8_removePredicate_7 rfl ?_
  refine aw_bipush dX8_removePredicate_9 rfl ?_
  refine aw_invV_n dX8_removePredicate_11 vX8_closeGap kX8_46 rfl (c_gap hS0 (by omega) (by omega) (by omega)) ⟨_, (by assumption), _, _, rfl⟩ rfl rfl (by decide) (by decide) (by decide) (Nat.le_of_ble_eq_true rfl) ?_
  refine aw_aload_n dX8_removePredicate_14 rfl ?_
  refine aw_dup dX8_removePredicate_15 rfl ?_
  refine aw_geti' (j := 2) dX8_removePredicate_16 fX8_18 rfl (by assumption) rfl (by rw [gi_hGap, if_neg (by omega)]) ?_
  refine aw_iconst dX8_removePredicate_19 ?_
  refine aw_isub dX8_removePredicate_20 ?_
  refine aw_puti' (j := 2) rfl dX8_removePredicate_21 fX8_18 (by assumption) rfl ?_
  exact aw_return dX8_removePredicate_24 rfl (Or.inl rfl) ⟨rfl, rfl⟩
theorem c_apP {γ : GG} {h : AH} {a b : Nat} (hS : shS h a) (hB : shS h b) (hp : 0 ≤ gi h a 2 ∧ 0 ≤ gi h b 2 ∧ gi h a 2 + gi h b 2 ≤ 3) (hab : a + 2 ≤ b ∨ b + 2 ≤ a) : Call γ mX8_appendPredicatesOf 1 0 0 [vr (some a), vr (some b)] h (rN (si (cpI h (b + 1) 0 (a + 1) (gi h a 2 * 9) (gi h b 2 * 9)) a 2 (gi h a 2 + gi h b 2))) := by
  obtain ⟨hk, hr, hk1⟩ := hS
  obtain ⟨hkb, hrb, hkb1⟩ := hB
  refine Call.of (ls := [(0, vr (some a)), (1, vr (some b))]) vX8_appendPredicatesOf.1 (Nat.le_of_ble_eq_true rfl) rfl ?_
  refine aw_aload_n dX8_appendPredicatesOf_0 rfl ?_
  refine aw_geti' (j := 2) dX8_appendPredicatesOf_1 fX8_18 rfl (by assumption) rfl rfl ?_
  refine aw_aload_n dX8_appendPredicatesOf_4 rfl ?_
  refine aw_geti' (j := 2) dX8_appendPredicatesOf_5 fX8_18 rfl (by assumption) rfl rfl ?_
  refine aw_iadd dX8_appendPredicatesOf_8 ?_
  refine aw_iconst dX8_appendPredicatesOf_9 ?_
  refine aw_ic_gt (tgt := 52) dX8_appendPredicatesOf_10 rfl (by omega) (by omega) (fun c10 => ?_) (fun c10 => ?_)
  · exact absurd c10 (by omega)
  · refine aw_aload_n dX8_appendPredicatesOf_13 rfl ?_
    refine aw_getr' (j := 3) dX8_appendPredicatesOf_14 fX8_21 rfl (by assumption) rfl (by assumption) ?_
    refine aw_iconst dX8_appendPredicatesOf_17 ?_
    refine aw_aload_n dX8_appendPredicatesOf_18 rfl ?_
    refine aw_getr' (j := 3) dX8_appendPredicatesOf_19 fX8_21 rfl (by assumption) rfl (by assumption) ?_
    refine aw_aload_n dX8_appendPredicatesOf_22 rfl ?_
    refine aw_geti' (j := 2) dX8_appendPredicatesOf_23 fX8_18 rfl (by assumption) rfl rfl ?_
    refine aw_bipush dX8_appendPredicatesOf_26 rfl ?_
    refine aw_imul dX8_appendPredicatesOf_28 ?_
    refine aw_aload_n dX8_appendPredicatesOf_29 rfl ?_
    refine aw_geti' (j := 2) dX8_appendPredicatesOf_30 fX8_18 rfl (by assumption) rfl rfl ?_
    refine aw_bipush dX8_appendPredicatesOf_33 rfl ?_
    refine aw_imul dX8_appendPredicatesOf_35 ?_
    refine aw_copyI dX8_appendPredicatesOf_36 aX8_33 (by assumption) (by assumption) (by decide) (by decide) (by omega) (by decide) (Nat.le_of_ble_eq_true rfl) ?_
    refine aw_aload_n dX8_appendPredicatesOf_39 rfl ?_
    refine aw_dup dX8_appendPredicatesOf_40 rfl ?_
    refine aw_geti' (j := 2) dX8_appendPredicatesOf_41 fX8_18 rfl (by assumption) rfl (by rw [gi_cpI, if_neg (by omega)]) ?_
    refine aw_aload_n dX8_appendPredicatesOf_44 rfl ?_
    refine aw_geti' (j := 2) dX8_appendPredicatesOf_45 fX8_18 rfl (by assumption) rfl (by rw [gi_cpI, if_neg (by omega)]) ?_
    refine aw_iadd dX8_appendPredicatesOf_48 ?_
    refine aw_puti' (j := 2) rfl dX8_appendPredicatesOf_49 fX8_18 (by assumption) rfl ?_
    exact aw_return dX8_appendPredicatesOf_52 rfl (Or.inl rfl) ⟨rfl, rfl⟩
