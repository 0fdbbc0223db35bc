/-! ===== Rewriter: rule 5, the first rule that can be used ===== -/
def f5 (s t : TS) : Option TS := if t.1 = (1, 8) ∧ isPosS t = false ∧ s.2.length + t.2.length ≤ 3 then some (s.1, s.2 ++ t.2) else none
theorem cAt_app (ps qs : List TP) (k : Nat) : cAt (ps ++ qs) k = if k < 9 * ps.length then cAt ps k else cAt qs (k - 9 * ps.length) := by
  unfold cAt
  rw [List.getElem?_append]
  by_cases q : k < 9 * ps.length
  · rw [if_pos (by omega), if_pos q]
  · rw [if_neg (by omega), if_neg q, show (k - 9 * ps.length) / 9 = k / 9 - ps.length by omega, show (k - 9 * ps.length) % 9 = k % 9 by omega, show (k - 9 * ps.length) % 3 = k % 3 by omega]
def hJoin (h : AH) (a b p q : Nat) : AH := si (cpI h (b + 1) 0 (a + 1) ((p : Int) * 9) ((q : Int) * 9)) a 2 ((p : Int) + (q : Int))
theorem isS_hJoin {h : AH} {a b : Nat} {s t : TS} (ha : isS h a s) (hb : isS h b t) (hl : s.2.length + t.2.length ≤ 3) : isS (hJoin h a b s.2.length t.2.length) a (s.1, s.2 ++ t.2) := by
  obtain ⟨hs, h0, h1, h2, h3⟩ := ha
  obtain ⟨-, -, -, -, h3b⟩ := hb
  unfold hJoin
  refine ⟨hs, ?_, ?_, ?_, fun k hk => ?_⟩
  · rw [gi_ne (Or.inr (by omega)), gi_cpI, if_neg (by omega)]; exact h0
  · rw [gi_ne (Or.inr (by omega)), gi_cpI, if_neg (by omega)]; exact h1
  · rw [gi_at rfl rfl]; show _ = (((s.2 ++ t.2).length : Nat) : Int); rw [List.length_append]; omega
  · rw [gi_ne (Or.inl (by omega)), gi_cpI, slotv_so, cAt_app]
    by_cases q : k < 9 * s.2.length
    · rw [if_neg (by omega), if_pos q, h3 k hk, slotv_so]
    · rw [if_neg q]
      by_cases q2 : k < 9 * s.2.length + 9 * t.2.length
      · rw [if_pos ⟨rfl, by omega, by omega⟩, show (0 : Int) + ((k : Int) - (s.2.length : Int) * 9) = ((k - 9 * s.2.length : Nat) : Int) by omega, h3b _ (by omega), slotv_so]
      · rw [if_neg (by omega), h3 k hk, slotv_so]
        unfold cAt
        rw [List.getElem?_eq_none (l := s.2) (by omega), List.getElem?_eq_none (l := t.2) (by omega)]
        rfl
theorem eqO_hJoin {h : AH} {a b p q : Nat} : eqO h (hJoin h a b p q) a (a + 2) := by
  unfold hJoin
  have e : eqO h (cpI h (b + 1) 0 (a + 1) ((p : Int) * 9) ((q : Int) * 9)) a (a + 2) := ⟨rfl, fun c hc => ⟨rfl, fun k => ⟨by rw [gi_cpI, if_neg (fun z => by have := z.1; omega)], rfl, rfl⟩⟩⟩
  exact e.tr (eqO.si (by omega) (by omega))
theorem okS_join {s t : TS} (hs : okS s) (ht : okS t) (hl : s.2.length + t.2.length ≤ 3) : okS (s.1, s.2 ++ t.2) := by
  refine ⟨hs.1, by show (s.2 ++ t.2).length ≤ 3; rw [List.length_append]; exact hl, fun p hp => ?_⟩
  rcases List.mem_append.mp hp with hp | hp
  · exact hs.2.2 p hp
  · exact ht.2.2 p hp
theorem l_r5 {γ : GG} {h : AH} {o : Nat} {a : Nat} {π : Nat → Nat} {t : TT} (hP : isP h a π t) (hw : okW t) : ∀ (m k : Nat), 1 ≤ k → k + m = t.2.length → (∀ j s x, j + 1 < k → t.2[j]? = some s → t.2[j + 1]? = some x → f5 s x = none) → AW γ mX6_joinPredicates 2 0 0 2 [(0, vr (some o)), (1, vr (some a)), (2, vi (k : Int))] [] h (rP h a t (fp f5 t.2)) := by
  have hP0 := hP
  obtain ⟨⟨hk, hr, hk1, hπ, hrf, hst⟩, h0, h1, hl8, hss⟩ := hP
  intro m
  induction m with
  | zero =>
    intro k hk1' hkm hj
    rw [fp_none (fun j s x hs hx => hj j s x (by have := (List.getElem?_eq_some_iff.mp hx).1; omega) hs hx)]
    refine aw_iload_n dX6_joinPredicates_2 rfl ?_
    refine aw_aload_n dX6_joinPredicates_3 rfl ?_
    refine aw_geti' (j := 1) dX6_joinPredicates_4 fX6_62 rfl (by assumption) rfl h1 ?_
    refine aw_ic_ge (tgt := 77) dX6_joinPredicates_7 rfl (by omega) (by omega) (fun c7 => ?_) (fun c7 => ?_)
    · refine aw_iconst dX6_joinPredicates_77 ?_
      exact aw_zreturn dX6_joinPredicates_78 rfl (by omega) (Or.inl rfl) ⟨rfl, rfl⟩
    · exact absurd c7 (by omega)
  | succ m ih =>
    intro k hk1' hkm hj
    obtain ⟨s, hs⟩ : ∃ s, t.2[k - 1]? = some s := ⟨_, List.getElem?_eq_getElem (by omega)⟩
    obtain ⟨x, hx⟩ : ∃ x, t.2[k]? = some x := ⟨_, List.getElem?_eq_getElem (by omega)⟩
    have hx' : t.2[k - 1 + 1]? = some x := by rw [show k - 1 + 1 = k by omega]; exact hx
    have hS := hss (k - 1) s hs
    have hX := hss k x hx
    have s1 := hS.1.1
    have s2 := hX.1.1
    have os := hw.2.2 s (List.mem_of_getElem? hs)
    have ox := hw.2.2 x (List.mem_of_getElem? hx)
    have bs := os.1
    have bx := ox.1
    unfold okT at bs bx
    have ek := bsub hk1'
    have pk1 := pm_lt hπ (i := k) (by omega)
    have pk0 := pm_lt hπ (i := k - 1) (by omega)
    have pne : π k ≠ π (k - 1) := fun z => by have := hπ.2 _ _ (by omega) (by omega) z; omega
    have gS : gr h (a + 1) ((k : Int) - 1) = some (a + 2 + 2 * π (k - 1)) := by rw [ek]; exact hrf (k - 1) (by omega)
    have gX := hrf k (by omega)
    have K := c_isAny (γ := γ) (x := 1) hX ox (by omega)
    have K2 := c_sisPos (γ := γ) hX ox
    have l3 := os.2.1
    have l3x := ox.2.1
    by_cases q1 : x.1 = (1, 8)
    · rw [if_pos q1] at K
      cases q3 : isPosS x with
      | false =>
        rw [q3, if_neg (by decide)] at K2
        by_cases q2 : s.2.length + x.2.length ≤ 3
        · have ef : f5 s x = some (s.1, s.2 ++ x.2) := by unfold f5; rw [if_pos ⟨q1, q3, q2⟩]
          have e9 := fp_at1 hs hx' ef (fun j p q hj2 hp hq => hj j p q (by omega) hp hq)
          rw [show k - 1 + 1 = k by omega] at e9
          rw [e9]
          have hI := hP0.set (i := k - 1) (by omega) (isS_hJoin hS hX q2) eqO_hJoin
          have hW2 : okW (t.1, t.2.set (k - 1) (s.1, s.2 ++ x.2)) := okW_set hw (okS_join os ox q2)
          have K3 := c_prm (γ := γ) hI (i := k) (by show k < (t.2.set (k - 1) _).length; rw [List.length_set]; omega)
          have KA := c_apP (γ := γ) hS.1 hX.1 (by rw [hS.2.2.2.1, hX.2.2.2.1]; omega) (by omega)
          rw [hS.2.2.2.1, hX.2.2.2.1] at KA
          refine aw_iload_n dX6_joinPredicates_2 rfl ?_
          refine aw_aload_n dX6_joinPredicates_3 rfl ?_
          refine aw_geti' (j := 1) dX6_joinPredicates_4 fX6_62 rfl (by assumption) rfl h1 ?_
          refine aw_ic_ge (tgt := 77) dX6_joinPredicates_7 rfl (by omega) (by omega) (fun c7 => ?_) (fun c7 => ?_)
          · exact absurd c7 (by omega)
          · refine aw_aload_n dX6_joinPredicates_10 rfl ?_
            refine aw_getr' (j := 2) dX6_joinPredicates_11 fX6_65 rfl (by assumption) rfl (by assumption) ?_
            refine aw_iload_n dX6_joinPredicates_14 rfl ?_
            refine aw_iconst dX6_joinPredicates_15 ?_
            refine aw_isub dX6_joinPredicates_16 ?_
            refine aw_aald7' dX6_joinPredicates_17 (by assumption) (by omega) (by first | decide | omega) gS ?_
            refine aw_astore_n (ls1 := [(3, _), (0, _), (1, _), (2, _)]) dX6_joinPredicates_18 (by decide) rfl ?_
            refine aw_aload_n dX6_joinPredicates_19 rfl ?_
            refine aw_getr' (j := 2) dX6_joinPredicates_20 fX6_65 rfl (by assumption) rfl (by assumption) ?_
            refine aw_iload_n dX6_joinPredicates_23 rfl ?_
            refine aw_aald7' dX6_joinPredicates_24 (by assumption) (by omega) (by first | decide | omega) gX ?_
            refine aw_astore (ls1 := [(4, _), (3, _), (0, _), (1, _), (2, _)]) dX6_joinPredicates_25 (by decide) rfl ?_
            refine aw_aload dX6_joinPredicates_27 rfl ?_
            refine aw_iconst dX6_joinPredicates_29 ?_
            refine aw_invV_r dX6_joinPredicates_30 vX8_isAny kX6_116 rfl (K) ⟨_, (by assumption), _, _, rfl⟩ rfl rfl (by decide) (by decide) (by decide) (Nat.le_of_ble_eq_true rfl) ?_
            refine aw_if_eq (tgt := 71) dX6_joinPredicates_33 rfl (by omega) (fun c33 => ?_) (fun c33 => ?_)
            · exact absurd c33 (by omega)
            · refine aw_aload dX6_joinPredicates_36 rfl ?_
              refine aw_invV_r dX6_joinPredicates_38 vX8_isPositional kX6_90 rfl (K2) ⟨_, (by assumption), _, _, rfl⟩ rfl rfl (by decide) (by decide) (by decide) (Nat.le_of_ble_eq_true rfl) ?_
              refine aw_if_ne (tgt := 71) dX6_joinPredicates_41 rfl (by omega) (fun c41 => ?_) (fun c41 => ?_)
              · exact absurd c41 (by omega)
              · refine aw_aload_n dX6_joinPredicates_44 rfl ?_
                refine aw_geti' (j := 2) dX6_joinPredicates_45 fX6_93 rfl (by assumption) rfl hS.2.2.2.1 ?_
                refine aw_aload dX6_joinPredicates_48 rfl ?_
                refine aw_geti' (j := 2) dX6_joinPredicates_50 fX6_93 rfl (by assumption) rfl hX.2.2.2.1 ?_
                refine aw_iadd dX6_joinPredicates_53 ?_
                refine aw_iconst dX6_joinPredicates_54 ?_
                refine aw_ic_gt (tgt := 71) dX6_joinPredicates_55 rfl (by omega) (by omega) (fun c55 => ?_) (fun c55 => ?_)
                · exact absurd c55 (by omega)
                · refine aw_aload_n dX6_joinPredicates_58 rfl ?_
                  refine aw_aload dX6_joinPredicates_59 rfl ?_
                  refine aw_invV_n dX6_joinPredicates_61 vX8_appendPredicatesOf kX6_119 rfl (KA) ⟨_, (by assumption), _, _, rfl⟩ rfl rfl (by decide) (by decide) (by decide) (Nat.le_of_ble_eq_true rfl) ?_
                  refine aw_aload_n dX6_joinPredicates_64 rfl ?_
                  refine aw_iload_n dX6_joinPredicates_65 rfl ?_
                  refine aw_invV_n dX6_joinPredicates_66 vX4_removeStep kX6_84 rfl (K3) ⟨_, (by exact hk), _, _, rfl⟩ rfl rfl (by decide) (by decide) (by decide) (Nat.le_of_ble_eq_true rfl) ?_
                  refine aw_iconst dX6_joinPredicates_69 ?_
                  exact aw_zreturn dX6_joinPredicates_70 rfl (by omega) (Or.inl rfl) ⟨rfl, isP_hop2 (t := t) hI hW2 (eqO_hJoin.mono (by omega) (by omega)) (by rw [List.length_set]; omega) (by rw [List.length_set]; omega)⟩
        · have ih' := ih (k + 1) (by omega) (by omega) (fun j p y hj2 hp hy => by
          by_cases q9 : j + 1 = k
          · rw [show j = k - 1 by omega, hs] at hp
            rw [q9, hx] at hy
            rw [← Option.some.inj hp, ← Option.some.inj hy]
            exact by unfold f5; rw [if_neg (fun z => q2 z.2.2)]
          · exact hj j p y (by omega) hp hy)
          refine aw_iload_n dX6_joinPredicates_2 rfl ?_
          refine aw_aload_n dX6_joinPredicates_3 rfl ?_
          refine aw_geti' (j := 1) dX6_joinPredicates_4 fX6_62 rfl (by assumption) rfl h1 ?_
          refine aw_ic_ge (tgt := 77) dX6_joinPredicates_7 rfl (by omega) (by omega) (fun c7 => ?_) (fun c7 => ?_)
          · exact absurd c7 (by omega)
          · refine aw_aload_n dX6_joinPredicates_10 rfl ?_
            refine aw_getr' (j := 2) dX6_joinPredicates_11 fX6_65 rfl (by assumption) rfl (by assumption) ?_
            refine aw_iload_n dX6_joinPredicates_14 rfl ?_
            refine aw_iconst dX6_joinPredicates_15 ?_
            refine aw_isub dX6_joinPredicates_16 ?_
            refine aw_aald7' dX6_joinPredicates_17 (by assumption) (by omega) (by first | decide | omega) gS ?_
            refine aw_astore_n (ls1 := [(3, _), (0, _), (1, _), (2, _)]) dX6_joinPredicates_18 (by decide) rfl ?_
            refine aw_aload_n dX6_joinPredicates_19 rfl ?_
            refine aw_getr' (j := 2) dX6_joinPredicates_20 fX6_65 rfl (by assumption) rfl (by assumption) ?_
            refine aw_iload_n dX6_joinPredicates_23 rfl ?_
            refine aw_aald7' dX6_joinPredicates_24 (by assumption) (by omega) (by first | decide | omega) gX ?_
            refine aw_astore (ls1 := [(4, _), (3, _), (0, _), (1, _), (2, _)]) dX6_joinPredicates_25 (by decide) rfl ?_
            refine aw_aload dX6_joinPredicates_27 rfl ?_
            refine aw_iconst dX6_joinPredicates_29 ?_
            refine aw_invV_r dX6_joinPredicates_30 vX8_isAny kX6_116 rfl (K) ⟨_, (by assumption), _, _, rfl⟩ rfl rfl (by decide) (by decide) (by decide) (Nat.le_of_ble_eq_true rfl) ?_
            refine aw_if_eq (tgt := 71) dX6_joinPredicates_33 rfl (by omega) (fun c33 => ?_) (fun c33 => ?_)
            · exact absurd c33 (by omega)
            · refine aw_aload dX6_joinPredicates_36 rfl ?_
              refine aw_invV_r dX6_joinPredicates_38 vX8_isPositional kX6_90 rfl (K2) ⟨_, (by assumption), _, _, rfl⟩ rfl rfl (by decide) (by decide) (by decide) (Nat.le_of_ble_eq_true rfl) ?_
              refine aw_if_ne (tgt := 71) dX6_joinPredicates_41 rfl (by omega) (fun c41 => ?_) (fun c41 => ?_)
              · exact absurd c41 (by omega)
              · refine aw_aload_n dX6_joinPredicates_44 rfl ?_
                refine aw_geti' (j := 2) dX6_joinPredicates_45 fX6_93 rfl (by assumption) rfl hS.2.2.2.1 ?_
                refine aw_aload dX6_joinPredicates_48 rfl ?_
                refine aw_geti' (j := 2) dX6_joinPredicates_50 fX6_93 rfl (by assumption) rfl hX.2.2.2.1 ?_
                refine aw_iadd dX6_joinPredicates_53 ?_
                refine aw_iconst dX6_joinPredicates_54 ?_
                refine aw_ic_gt (tgt := 71) dX6_joinPredicates_55 rfl (by omega) (by omega) (fun c55 => ?_) (fun c55 => ?_)
                · refine aw_iinc (k9 := 4) (ls1 := [(2, _), (4, _), (3, _), (0, _), (1, _)]) dX6_joinPredicates_71 rfl (by decide) rfl ?_
                  refine aw_goto (tgt := 2) dX6_joinPredicates_74 rfl ?_
                  refine aw_sub [3, 4, 0] rfl ?_
                  exact ih'
                · exact absurd c55 (by omega)
      | true =>
        rw [q3, if_pos rfl] at K2
        have ih' := ih (k + 1) (by omega) (by omega) (fun j p y hj2 hp hy => by
          by_cases q9 : j + 1 = k
          · rw [show j = k - 1 by omega, hs] at hp
            rw [q9, hx] at hy
            rw [← Option.some.inj hp, ← Option.some.inj hy]
            exact by unfold f5; rw [if_neg (fun z => by rw [q3] at z; exact absurd z.2.1 (by decide))]
          · exact hj j p y (by omega) hp hy)
        refine aw_iload_n dX6_joinPredicates_2 rfl ?_
        refine aw_aload_n dX6_joinPredicates_3 rfl ?_
        refine aw_geti' (j := 1) dX6_joinPredicates_4 fX6_62 rfl (by assumption) rfl h1 ?_
        refine aw_ic_ge (tgt := 77) dX6_joinPredicates_7 rfl (by omega) (by omega) (fun c7 => ?_) (fun c7 => ?_)
        · exact absurd c7 (by omega)
        · refine aw_aload_n dX6_joinPredicates_10 rfl ?_
          refine aw_getr' (j := 2) dX6_joinPredicates_11 fX6_65 rfl (by assumption) rfl (by assumption) ?_
          refine aw_iload_n dX6_joinPredicates_14 rfl ?_
          refine aw_iconst dX6_joinPredicates_15 ?_
          refine aw_isub dX6_joinPredicates_16 ?_
          refine aw_aald7' dX6_joinPredicates_17 (by assumption) (by omega) (by first | decide | omega) gS ?_
          refine aw_astore_n (ls1 := [(3, _), (0, _), (1, _), (2, _)]) dX6_joinPredicates_18 (by decide) rfl ?_
          refine aw_aload_n dX6_joinPredicates_19 rfl ?_
          refine aw_getr' (j := 2) dX6_joinPredicates_20 fX6_65 rfl (by assumption) rfl (by assumption) ?_
          refine aw_iload_n dX6_joinPredicates_23 rfl ?_
          refine aw_aald7' dX6_joinPredicates_24 (by assumption) (by omega) (by first | decide | omega) gX ?_
          refine aw_astore (ls1 := [(4, _), (3, _), (0, _), (1, _), (2, _)]) dX6_joinPredicates_25 (by decide) rfl ?_
          refine aw_aload dX6_joinPredicates_27 rfl ?_
          refine aw_iconst dX6_joinPredicates_29 ?_
          refine aw_invV_r dX6_joinPredicates_30 vX8_isAny kX6_116 rfl (K) ⟨_, (by assumption), _, _, rfl⟩ rfl rfl (by decide) (by decide) (by decide) (Nat.le_of_ble_eq_true rfl) ?_
          refine aw_if_eq (tgt := 71) dX6_joinPredicates_33 rfl (by omega) (fun c33 => ?_) (fun c33 => ?_)
          · exact absurd c33 (by omega)
          · refine aw_aload dX6_joinPredicates_36 rfl ?_
            refine aw_invV_r dX6_joinPredicates_38 vX8_isPositional kX6_90 rfl (K2) ⟨_, (by assumption), _, _, rfl⟩ rfl rfl (by decide) (by decide) (by decide) (Nat.le_of_ble_eq_true rfl) ?_
            refine aw_if_ne (tgt := 71) dX6_joinPredicates_41 rfl (by omega) (fun c41 => ?_) (fun c41 => ?_)
            · refine aw_iinc (k9 := 4) (ls1 := [(2, _), (4, _), (3, _), (0, _), (1, _)]) dX6_joinPredicates_71 rfl (by decide) rfl ?_
              refine aw_goto (tgt := 2) dX6_joinPredicates_74 rfl ?_
              refine aw_sub [3, 4, 0] rfl ?_
              exact ih'
            · exact absurd c41 (by omega)
    · rw [if_neg q1] at K
      have ih' := ih (k + 1) (by omega) (by omega) (fun j p y hj2 hp hy => by
          by_cases q9 : j + 1 = k
          · rw [show j = k - 1 by omega, hs] at hp
            rw [q9, hx] at hy
            rw [← Option.some.inj hp, ← Option.some.inj hy]
            exact by unfold f5; rw [if_neg (fun z => q1 z.1)]
          · exact hj j p y (by omega) hp hy)
      refine aw_iload_n dX6_joinPredicates_2 rfl ?_
      refine aw_aload_n dX6_joinPredicates_3 rfl ?_
      refine aw_geti' (j := 1) dX6_joinPredicates_4 fX6_62 rfl (by assumption) rfl h1 ?_
      refine aw_ic_ge (tgt := 77) dX6_joinPredicates_7 rfl (by omega) (by omega) (fun c7 => ?_) (fun c7 => ?_)
      · exact absurd c7 (by omega)
      · refine aw_aload_n dX6_joinPredicates_10 rfl ?_
        refine aw_getr' (j := 2) dX6_joinPredicates_11 fX6_65 rfl (by assumption) rfl (by assumption) ?_
        refine aw_iload_n dX6_joinPredicates_14 rfl ?_
        refine aw_iconst dX6_joinPredicates_15 ?_
        refine aw_isub dX6_joinPredicates_16 ?_
        refine aw_aald7' dX6_joinPredicates_17 (by assumption) (by omega) (by first | decide | omega) gS ?_
        refine aw_astore_n (ls1 := [(3, _), (0, _), (1, _), (2, _)]) dX6_joinPredicates_18 (by decide) rfl ?_
        refine aw_aload_n dX6_joinPredicates_19 rfl ?_
        refine aw_getr' (j := 2) dX6_joinPredicates_20 fX6_65 rfl (by assumption) rfl (by assumption) ?_
        refine aw_iload_n dX6_joinPredicates_23 rfl ?_
        refine aw_aald7' dX6_joinPredicates_24 (by assumption) (by omega) (by first | decide | omega) gX ?_
        refine aw_astore (ls1 := [(4, _), (3, _), (0, _), (1, _), (2, _)]) dX6_joinPredicates_25 (by decide) rfl ?_
        refine aw_aload dX6_joinPredicates_27 rfl ?_
        refine aw_iconst dX6_joinPredicates_29 ?_
        refine aw_invV_r dX6_joinPredicates_30 vX8_isAny kX6_116 rfl (K) ⟨_, (by assumption), _, _, rfl⟩ rfl rfl (by decide) (by decide) (by decide) (Nat.le_of_ble_eq_true rfl) ?_
        refine aw_if_eq (tgt := 71) dX6_joinPredicates_33 rfl (by omega) (fun c33 => ?_) (fun c33 => ?_)
        · refine aw_iinc (k9 := 4) (ls1 := [(2, _), (4, _), (3, _), (0, _), (1, _)]) dX6_joinPredicates_71 rfl (by decide) rfl ?_
          refine aw_goto (tgt := 2) dX6_joinPredicates_74 rfl ?_
          refine aw_sub [3, 4, 0] rfl ?_
          exact ih'
        · exact absurd c33 (by omega)
theorem c_r5 {γ : GG} {h : AH} {o : Nat} {a : Nat} {π : Nat → Nat} {t : TT} (hP : isP h a π t) (hw : okW t) : Call γ mX6_joinPredicates 2 0 0 [vr (some o), vr (some a)] h (rP h a t (fp f5 t.2)) := by
  have K := l_r5 (γ := γ) (o := o) hP hw (t.2.length - 1) 1 (by omega) (by have := hw.1; omega) (fun j s x hj => absurd hj (by omega))
  refine Call.of (ls := [(0, vr (some o)), (1, vr (some a))]) vX6_joinPredicates.1 (Nat.le_of_ble_eq_true rfl) rfl ?_
  refine aw_iconst dX6_joinPredicates_0 ?_
  refine aw_istore_n (ls1 := [(2, _), (0, _), (1, _)]) dX6_joinPredicates_1 (by decide) rfl ?_
  refine aw_sub [1, 2, 0] rfl ?_
  exact K
def g6 (s : TS) : Option TS := (r6S s.2).map (fun ps => (s.1, ps))
def g7 (s : TS) : Option TS := (r7S s.2).map (fun ps => (s.1, ps))
def g88 (s : TS) : Option TS := (r8S s.2).map (fun ps => (s.1, ps))
def tag (n : Int) : Option (List TS) → Option (Int × List TS) → Option (Int × List TS)
  | some l, _ => some (n, l)
  | none, r => r
def uP (l : List TS) : Option (Int × List TS) := tag 6 (fm g6 l) (tag 7 (fm g7 l) (tag 8 (fm g88 l) none))
def uR (l : List TS) : Option (Int × List TS) := tag 1 (r1 l) (tag 2 (fp f2 l) (tag 3 (fp f3 l) (tag 4 (fp f4 l) (tag 5 (fp f5 l) (uP l)))))
def rU (h : AH) (a : Nat) (t : TT) : Option (Int × List TS) → AR → AH → Prop
  | none => rV (vi 0) h
  | some x => rE (vi x.1) (fun h' => (∃ π, isP h' a π (t.1, x.2)) ∧ okW (t.1, x.2) ∧ eqO h h' a (a + 18))
theorem l_u8 {γ : GG} {h : AH} {o a : Nat} {π : Nat → Nat} {t : TT} (hP : isP h a π t) (hw : okW t) (n0 : fm g6 t.2 = none) (n1 : fm g7 t.2 = none) : ∀ (m k : Nat), k + m = t.2.length → (∀ j s, j < k → t.2[j]? = some s → g88 s = none) → AW γ mX6_useFirstPredicateRule 3 0 0 64 [(0, vr (some o)), (1, vr (some a)), (2, vi (k : Int))] [] h (rU h a t (uP t.2)) := by
  have hP0 := hP
  obtain ⟨⟨hk, hr, hk1, hπ, hrf, hst⟩, h0, h1, hl8, hss⟩ := hP
  intro m
  induction m with
  | zero =>
    intro k hkm hj
    have e : fm g88 t.2 = none := fm_none (fun s hs => by
      obtain ⟨j, hj2⟩ := List.getElem?_of_mem hs
      exact hj j s (by have := (List.getElem?_eq_some_iff.mp hj2).1; omega) hj2)
    refine aw_iload_n dX6_useFirstPredicateRule_64 rfl ?_
    refine aw_aload_n dX6_useFirstPredicateRule_65 rfl ?_
    refine aw_geti' (j := 1) dX6_useFirstPredicateRule_66 fX6_62 rfl (by assumption) rfl h1 ?_
    refine aw_ic_ge (tgt := 93) dX6_useFirstPredicateRule_69 rfl (by omega) (by omega) (fun c69 => ?_) (fun c69 => ?_)
    · rw [show uP t.2 = none by unfold uP; rw [n0, n1, e]; rfl]
      refine aw_iconst dX6_useFirstPredicateRule_93 ?_
      exact aw_ireturn dX6_useFirstPredicateRule_94 rfl (Or.inl rfl) ⟨rfl, rfl⟩
    · exact absurd c69 (by omega)
  | succ m ih =>
    intro k hkm hj
    obtain ⟨s, hs⟩ : ∃ s, t.2[k]? = some s := ⟨_, List.getElem?_eq_getElem (by omega)⟩
    have hS := hss k s hs
    have s1 := hS.1.1
    have os := hw.2.2 s (List.mem_of_getElem? hs)
    have K := c_r8 (γ := γ) hS os
    have p1 := pm_lt hπ (i := k) (by omega)
    cases e6 : r8S s.2 with
    | none =>
      rw [e6] at K
      have ih' := ih (k + 1) (by omega) (fun j x hj2 hx => by
        by_cases q9 : j = k
        · subst q9
          rw [hs] at hx
          rw [← Option.some.inj hx]
          unfold g88
          rw [e6]
          rfl
        · exact hj j x (by omega) hx)
      refine aw_iload_n dX6_useFirstPredicateRule_64 rfl ?_
      refine aw_aload_n dX6_useFirstPredicateRule_65 rfl ?_
      refine aw_geti' (j := 1) dX6_useFirstPredicateRule_66 fX6_62 rfl (by assumption) rfl h1 ?_
      refine aw_ic_ge (tgt := 93) dX6_useFirstPredicateRule_69 rfl (by omega) (by omega) (fun c69 => ?_) (fun c69 => ?_)
      · exact absurd c69 (by omega)
      · refine aw_aload_n dX6_useFirstPredicateRule_72 rfl ?_
        refine aw_getr' (j := 2) dX6_useFirstPredicateRule_73 fX6_65 rfl (by assumption) rfl (by assumption) ?_
        refine aw_iload_n dX6_useFirstPredicateRule_76 rfl ?_
        refine aw_aald7' dX6_useFirstPredicateRule_77 (by assumption) (by omega) (by first | decide | omega) (hrf k (by omega)) ?_
        refine aw_invV_r dX6_useFirstPredicateRule_78 vX8_dropRepeatedPredicate kX6_78 rfl (K) ⟨_, (by assumption), _, _, rfl⟩ rfl rfl (by decide) (by decide) (by decide) (Nat.le_of_ble_eq_true rfl) ?_
        refine aw_if_eq (tgt := 87) dX6_useFirstPredicateRule_81 rfl (by omega) (fun c81 => ?_) (fun c81 => ?_)
        · refine aw_iinc (k9 := 2) (ls1 := [(2, _), (0, _), (1, _)]) dX6_useFirstPredicateRule_87 rfl (by decide) rfl ?_
          refine aw_goto (tgt := 64) dX6_useFirstPredicateRule_90 rfl ?_
          refine aw_sub [1, 2, 0] rfl ?_
          exact ih'
        · exact absurd c81 (by omega)
    | some ps =>
      rw [e6] at K
      have e9 : fm g88 t.2 = some (t.2.set k (s.1, ps)) := fm_at hs (by unfold g88; rw [e6]; rfl) hj
      rw [show uP t.2 = some (8, t.2.set k (s.1, ps)) by unfold uP; rw [n0, n1, e9]; rfl]
      refine aw_iload_n dX6_useFirstPredicateRule_64 rfl ?_
      refine aw_aload_n dX6_useFirstPredicateRule_65 rfl ?_
      refine aw_geti' (j := 1) dX6_useFirstPredicateRule_66 fX6_62 rfl (by assumption) rfl h1 ?_
      refine aw_ic_ge (tgt := 93) dX6_useFirstPredicateRule_69 rfl (by omega) (by omega) (fun c69 => ?_) (fun c69 => ?_)
      · exact absurd c69 (by omega)
      · refine aw_aload_n dX6_useFirstPredicateRule_72 rfl ?_
        refine aw_getr' (j := 2) dX6_useFirstPredicateRule_73 fX6_65 rfl (by assumption) rfl (by assumption) ?_
        refine aw_iload_n dX6_useFirstPredicateRule_76 rfl ?_
        refine aw_aald7' dX6_useFirstPredicateRule_77 (by assumption) (by omega) (by first | decide | omega) (hrf k (by omega)) ?_
        refine aw_invV_e dX6_useFirstPredicateRule_78 vX8_dropRepeatedPredicate kX6_78 rfl (K) ⟨_, (by assumption), _, _, rfl⟩ rfl rfl (by decide) (by decide) (by decide) (Nat.le_of_ble_eq_true rfl) (fun h1 hP9 => ?_)
        obtain ⟨e1, e2, e3⟩ := hP9
        refine aw_if_eq (tgt := 87) dX6_useFirstPredicateRule_81 rfl (by omega) (fun c81 => ?_) (fun c81 => ?_)
        · exact absurd c81 (by omega)
        · refine aw_bipush dX6_useFirstPredicateRule_84 rfl ?_
          exact aw_ireturn dX6_useFirstPredicateRule_86 rfl (Or.inl rfl) ⟨rfl, ⟨π, hP0.set (by omega) e1 e3⟩, okW_set hw e2, e3.mono (by omega) (by omega)⟩
theorem l_u7 {γ : GG} {h : AH} {o a : Nat} {π : Nat → Nat} {t : TT} (hP : isP h a π t) (hw : okW t) (n0 : fm g6 t.2 = none) : ∀ (m k : Nat), k + m = t.2.length → (∀ j s, j < k → t.2[j]? = some s → g7 s = none) → AW γ mX6_useFirstPredicateRule 3 0 0 33 [(0, vr (some o)), (1, vr (some a)), (2, vi (k : Int))] [] h (rU h a t (uP t.2)) := by
  have hP0 := hP
  obtain ⟨⟨hk, hr, hk1, hπ, hrf, hst⟩, h0, h1, hl8, hss⟩ := hP
  intro m
  induction m with
  | zero =>
    intro k hkm hj
    have e : fm g7 t.2 = none := fm_none (fun s hs => by
      obtain ⟨j, hj2⟩ := List.getElem?_of_mem hs
      exact hj j s (by have := (List.getElem?_eq_some_iff.mp hj2).1; omega) hj2)
    refine aw_iload_n dX6_useFirstPredicateRule_33 rfl ?_
    refine aw_aload_n dX6_useFirstPredicateRule_34 rfl ?_
    refine aw_geti' (j := 1) dX6_useFirstPredicateRule_35 fX6_62 rfl (by assumption) rfl h1 ?_
    refine aw_ic_ge (tgt := 62) dX6_useFirstPredicateRule_38 rfl (by omega) (by omega) (fun c38 => ?_) (fun c38 => ?_)
    · have K9 := l_u8 (γ := γ) (o := o) hP0 hw n0 e t.2.length 0 (by omega) (fun j s hj => absurd hj (by omega))
      refine aw_iconst dX6_useFirstPredicateRule_62 ?_
      refine aw_istore_n (ls1 := [(2, _), (0, _), (1, _)]) dX6_useFirstPredicateRule_63 (by decide) rfl ?_
      refine aw_sub [1, 2, 0] rfl ?_
      exact K9
    · exact absurd c38 (by omega)
  | succ m ih =>
    intro k hkm hj
    obtain ⟨s, hs⟩ : ∃ s, t.2[k]? = some s := ⟨_, List.getElem?_eq_getElem (by omega)⟩
    have hS := hss k s hs
    have s1 := hS.1.1
    have os := hw.2.2 s (List.mem_of_getElem? hs)
    have K := c_r7 (γ := γ) hS os
    have p1 := pm_lt hπ (i := k) (by omega)
    cases e6 : r7S s.2 with
    | none =>
      rw [e6] at K
      have ih' := ih (k + 1) (by omega) (fun j x hj2 hx => by
        by_cases q9 : j = k
        · subst q9
          rw [hs] at hx
          rw [← Option.some.inj hx]
          unfold g7
          rw [e6]
          rfl
        · exact hj j x (by omega) hx)
      refine aw_iload_n dX6_useFirstPredicateRule_33 rfl ?_
      refine aw_aload_n dX6_useFirstPredicateRule_34 rfl ?_
      refine aw_geti' (j := 1) dX6_useFirstPredicateRule_35 fX6_62 rfl (by assumption) rfl h1 ?_
      refine aw_ic_ge (tgt := 62) dX6_useFirstPredicateRule_38 rfl (by omega) (by omega) (fun c38 => ?_) (fun c38 => ?_)
      · exact absurd c38 (by omega)
      · refine aw_aload_n dX6_useFirstPredicateRule_41 rfl ?_
        refine aw_getr' (j := 2) dX6_useFirstPredicateRule_42 fX6_65 rfl (by assumption) rfl (by assumption) ?_
        refine aw_iload_n dX6_useFirstPredicateRule_45 rfl ?_
        refine aw_aald7' dX6_useFirstPredicateRule_46 (by assumption) (by omega) (by first | decide | omega) (hrf k (by omega)) ?_
        refine aw_invV_r dX6_useFirstPredicateRule_47 vX8_dropIdlePredicate kX6_75 rfl (K) ⟨_, (by assumption), _, _, rfl⟩ rfl rfl (by decide) (by decide) (by decide) (Nat.le_of_ble_eq_true rfl) ?_
        refine aw_if_eq (tgt := 56) dX6_useFirstPredicateRule_50 rfl (by omega) (fun c50 => ?_) (fun c50 => ?_)
        · refine aw_iinc (k9 := 2) (ls1 := [(2, _), (0, _), (1, _)]) dX6_useFirstPredicateRule_56 rfl (by decide) rfl ?_
          refine aw_goto (tgt := 33) dX6_useFirstPredicateRule_59 rfl ?_
          refine aw_sub [1, 2, 0] rfl ?_
          exact ih'
        · exact absurd c50 (by omega)
    | some ps =>
      rw [e6] at K
      have e9 : fm g7 t.2 = some (t.2.set k (s.1, ps)) := fm_at hs (by unfold g7; rw [e6]; rfl) hj
      rw [show uP t.2 = some (7, t.2.set k (s.1, ps)) by unfold uP; rw [n0, e9]; rfl]
      refine aw_iload_n dX6_useFirstPredicateRule_33 rfl ?_
      refine aw_aload_n dX6_useFirstPredicateRule_34 rfl ?_
      refine aw_geti' (j := 1) dX6_useFirstPredicateRule_35 fX6_62 rfl (by assumption) rfl h1 ?_
      refine aw_ic_ge (tgt := 62) dX6_useFirstPredicateRule_38 rfl (by omega) (by omega) (fun c38 => ?_) (fun c38 => ?_)
      · exact absurd c38 (by omega)
      · refine aw_aload_n dX6_useFirstPredicateRule_41 rfl ?_
        refine aw_getr' (j := 2) dX6_useFirstPredicateRule_42 fX6_65 rfl (by assumption) rfl (by assumption) ?_
        refine aw_iload_n dX6_useFirstPredicateRule_45 rfl ?_
        refine aw_aald7' dX6_useFirstPredicateRule_46 (by assumption) (by omega) (by first | decide | omega) (hrf k (by omega)) ?_
        refine aw_invV_e dX6_useFirstPredicateRule_47 vX8_dropIdlePredicate kX6_75 rfl (K) ⟨_, (by assumption), _, _, rfl⟩ rfl rfl (by decide) (by decide) (by decide) (Nat.le_of_ble_eq_true rfl) (fun h1 hP9 => ?_)
        obtain ⟨e1, e2, e3⟩ := hP9
        refine aw_if_eq (tgt := 56) dX6_useFirstPredicateRule_50 rfl (by omega) (fun c50 => ?_) (fun c50 => ?_)
        · exact absurd c50 (by omega)
        · refine aw_bipush dX6_useFirstPredicateRule_53 rfl ?_
          exact aw_ireturn dX6_useFirstPredicateRule_55 rfl (Or.inl rfl) ⟨rfl, ⟨π, hP0.set (by omega) e1 e3⟩, okW_set hw e2, e3.mono (by omega) (by omega)⟩
theorem l_u6 {γ : GG} {h : AH} {o a : Nat} {π : Nat → Nat} {t : TT} (hP : isP h a π t) (hw : okW t) : ∀ (m k : Nat), k + m = t.2.length → (∀ j s, j < k → t.2[j]? = some s → g6 s = none) → AW γ mX6_useFirstPredicateRule 3 0 0 2 [(0, vr (some o)), (1, vr (some a)), (2, vi (k : Int))] [] h (rU h a t (uP t.2)) := by
  have hP0 := hP
  obtain ⟨⟨hk, hr, hk1, hπ, hrf, hst⟩, h0, h1, hl8, hss⟩ := hP
  intro m
  induction m with
  | zero =>
    intro k hkm hj
    have e : fm g6 t.2 = none := fm_none (fun s hs => by
      obtain ⟨j, hj2⟩ := List.getElem?_of_mem hs
      exact hj j s (by have := (List.getElem?_eq_some_iff.mp hj2).1; omega) hj2)
    refine aw_iload_n dX6_useFirstPredicateRule_2 rfl ?_
    refine aw_aload_n dX6_useFirstPredicateRule_3 rfl ?_
    refine aw_geti' (j := 1) dX6_useFirstPredicateRule_4 fX6_62 rfl (by assumption) rfl h1 ?_
    refine aw_ic_ge (tgt := 31) dX6_useFirstPredicateRule_7 rfl (by omega) (by omega) (fun c7 => ?_) (fun c7 => ?_)
    · have K9 := l_u7 (γ := γ) (o := o) hP0 hw e t.2.length 0 (by omega) (fun j s hj => absurd hj (by omega))
      refine aw_iconst dX6_useFirstPredicateRule_31 ?_
      refine aw_istore_n (ls1 := [(2, _), (0, _), (1, _)]) dX6_useFirstPredicateRule_32 (by decide) rfl ?_
      refine aw_sub [1, 2, 0] rfl ?_
      exact K9
    · exact absurd c7 (by omega)
  | succ m ih =>
    intro k hkm hj
    obtain ⟨s, hs⟩ : ∃ s, t.2[k]? = some s := ⟨_, List.getElem?_eq_getElem (by omega)⟩
    have hS := hss k s hs
    have s1 := hS.1.1
    have os := hw.2.2 s (List.mem_of_getElem? hs)
    have K := c_r6 (γ := γ) hS os
    have p1 := pm_lt hπ (i := k) (by omega)
    cases e6 : r6S s.2 with
    | none =>
      rw [e6] at K
      have ih' := ih (k + 1) (by omega) (fun j x hj2 hx => by
        by_cases q9 : j = k
        · subst q9
          rw [hs] at hx
          rw [← Option.some.inj hx]
          unfold g6
          rw [e6]
          rfl
        · exact hj j x (by omega) hx)
      refine aw_iload_n dX6_useFirstPredicateRule_2 rfl ?_
      refine aw_aload_n dX6_useFirstPredicateRule_3 rfl ?_
      refine aw_geti' (j := 1) dX6_useFirstPredicateRule_4 fX6_62 rfl (by assumption) rfl h1 ?_
      refine aw_ic_ge (tgt := 31) dX6_useFirstPredicateRule_7 rfl (by omega) (by omega) (fun c7 => ?_) (fun c7 => ?_)
      · exact absurd c7 (by omega)
      · refine aw_aload_n dX6_useFirstPredicateRule_10 rfl ?_
        refine aw_getr' (j := 2) dX6_useFirstPredicateRule_11 fX6_65 rfl (by assumption) rfl (by assumption) ?_
        refine aw_iload_n dX6_useFirstPredicateRule_14 rfl ?_
        refine aw_aald7' dX6_useFirstPredicateRule_15 (by assumption) (by omega) (by first | decide | omega) (hrf k (by omega)) ?_
        refine aw_invV_r dX6_useFirstPredicateRule_16 vX8_dropIdleCondition kX6_69 rfl (K) ⟨_, (by assumption), _, _, rfl⟩ rfl rfl (by decide) (by decide) (by decide) (Nat.le_of_ble_eq_true rfl) ?_
        refine aw_if_eq (tgt := 25) dX6_useFirstPredicateRule_19 rfl (by omega) (fun c19 => ?_) (fun c19 => ?_)
        · refine aw_iinc (k9 := 2) (ls1 := [(2, _), (0, _), (1, _)]) dX6_useFirstPredicateRule_25 rfl (by decide) rfl ?_
          refine aw_goto (tgt := 2) dX6_useFirstPredicateRule_28 rfl ?_
          refine aw_sub [1, 2, 0] rfl ?_
          exact ih'
        · exact absurd c19 (by omega)
    | some ps =>
      rw [e6] at K
      have e9 : fm g6 t.2 = some (t.2.set k (s.1, ps)) := fm_at hs (by unfold g6; rw [e6]; rfl) hj
      rw [show uP t.2 = some (6, t.2.set k (s.1, ps)) by unfold uP; rw [e9]; rfl]
      refine aw_iload_n dX6_useFirstPredicateRule_2 rfl ?_
      refine aw_aload_n dX6_useFirstPredicateRule_3 rfl ?_
      refine aw_geti' (j := 1) dX6_useFirstPredicateRule_4 fX6_62 rfl (by assumption) rfl h1 ?_
      refine aw_ic_ge (tgt := 31) dX6_useFirstPredicateRule_7 rfl (by omega) (by omega) (fun c7 => ?_) (fun c7 => ?_)
      · exact absurd c7 (by omega)
      · refine aw_aload_n dX6_useFirstPredicateRule_10 rfl ?_
        refine aw_getr' (j := 2) dX6_useFirstPredicateRule_11 fX6_65 rfl (by assumption) rfl (by assumption) ?_
        refine aw_iload_n dX6_useFirstPredicateRule_14 rfl ?_
        refine aw_aald7' dX6_useFirstPredicateRule_15 (by assumption) (by omega) (by first | decide | omega) (hrf k (by omega)) ?_
        refine aw_invV_e dX6_useFirstPredicateRule_16 vX8_dropIdleCondition kX6_69 rfl (K) ⟨_, (by assumption), _, _, rfl⟩ rfl rfl (by decide) (by decide) (by decide) (Nat.le_of_ble_eq_true rfl) (fun h1 hP9 => ?_)
        obtain ⟨e1, e2, e3⟩ := hP9
        refine aw_if_eq (tgt := 25) dX6_useFirstPredicateRule_19 rfl (by omega) (fun c19 => ?_) (fun c19 => ?_)
        · exact absurd c19 (by omega)
        · refine aw_bipush dX6_useFirstPredicateRule_22 rfl ?_
          exact aw_ireturn dX6_useFirstPredicateRule_24 rfl (Or.inl rfl) ⟨rfl, ⟨π, hP0.set (by omega) e1 e3⟩, okW_set hw e2, e3.mono (by omega) (by omega)⟩
theorem c_uP {γ : GG} {h : AH} {o a : Nat} {π : Nat → Nat} {t : TT} (hP : isP h a π t) (hw : okW t) : Call γ mX6_useFirstPredicateRule 3 0 0 [vr (some o), vr (some a)] h (rU h a t (uP t.2)) := by
  refine Call.of (ls := [(0, vr (some o)), (1, vr (some a))]) vX6_useFirstPredicateRule.1 (Nat.le_of_ble_eq_true rfl) rfl ?_
  refine aw_iconst dX6_useFirstPredicateRule_0 ?_
  refine aw_istore_n (ls1 := [(2, _), (0, _), (1, _)]) dX6_useFirstPredicateRule_1 (by decide) rfl ?_
  refine aw_sub [1, 2, 0] rfl ?_
  exact l_u6 hP hw t.2.length 0 (by omega) (fun j s hj => absurd hj (by omega))
theorem c_uR {γ : GG} {h : AH} {o a : Nat} {π : Nat → Nat} {t : TT} (hO : kd h o = some (.inl 5)) (hP : isP h a π t) (hw : okW t) : Call γ mX6_useFirstRule 4 0 0 [vr (some o), vr (some a)] h (rU h a t (uR t.2)) := by
  have K1 := c_r1 (γ := γ) (o := o) hP hw
  cases E1 : r1 t.2 with
  | some l =>
    rw [E1] at K1
    rw [show uR t.2 = some (1, l) by unfold uR; rw [E1]; rfl]
    refine Call.of (ls := [(0, vr (some o)), (1, vr (some a))]) vX6_useFirstRule.1 (Nat.le_of_ble_eq_true rfl) rfl ?_
    refine aw_aload_n dX6_useFirstRule_0 rfl ?_
    refine aw_aload_n dX6_useFirstRule_1 rfl ?_
    refine aw_invV_e dX6_useFirstRule_2 vX6_dropIdleStep kX6_43 rfl (K1) ⟨_, (by assumption), _, _, rfl⟩ rfl rfl (by decide) (by decide) (by decide) (Nat.le_of_ble_eq_true rfl) (fun h1 hP9 => ?_)
    obtain ⟨E9, E10⟩ := hP9
    refine aw_if_eq (tgt := 10) dX6_useFirstRule_5 rfl (by omega) (fun c5 => ?_) (fun c5 => ?_)
    · exact absurd c5 (by omega)
    · refine aw_iconst dX6_useFirstRule_8 ?_
      exact aw_ireturn dX6_useFirstRule_9 rfl (Or.inl rfl) ⟨rfl, E9, E10⟩
  | none =>
    rw [E1] at K1
    have K2 := c_r2 (γ := γ) (o := o) hP hw
    cases E2 : fp f2 t.2 with
    | some l =>
      rw [E2] at K2
      rw [show uR t.2 = some (2, l) by unfold uR; rw [E1, E2]; rfl]
      refine Call.of (ls := [(0, vr (some o)), (1, vr (some a))]) vX6_useFirstRule.1 (Nat.le_of_ble_eq_true rfl) rfl ?_
      refine aw_aload_n dX6_useFirstRule_0 rfl ?_
      refine aw_aload_n dX6_useFirstRule_1 rfl ?_
      refine aw_invV_r dX6_useFirstRule_2 vX6_dropIdleStep kX6_43 rfl (K1) ⟨_, (by assumption), _, _, rfl⟩ rfl rfl (by decide) (by decide) (by decide) (Nat.le_of_ble_eq_true rfl) ?_
      refine aw_if_eq (tgt := 10) dX6_useFirstRule_5 rfl (by omega) (fun c5 => ?_) (fun c5 => ?_)
      · refine aw_aload_n dX6_useFirstRule_10 rfl ?_
        refine aw_aload_n dX6_useFirstRule_11 rfl ?_
        refine aw_invV_e dX6_useFirstRule_12 vX6_joinDescentToChild kX6_47 rfl (K2) ⟨_, (by assumption), _, _, rfl⟩ rfl rfl (by decide) (by decide) (by decide) (Nat.le_of_ble_eq_true rfl) (fun h1 hP9 => ?_)
        obtain ⟨E9, E10⟩ := hP9
        refine aw_if_eq (tgt := 20) dX6_useFirstRule_15 rfl (by omega) (fun c15 => ?_) (fun c15 => ?_)
        · exact absurd c15 (by omega)
        · refine aw_iconst dX6_useFirstRule_18 ?_
          exact aw_ireturn dX6_useFirstRule_19 rfl (Or.inl rfl) ⟨rfl, E9, E10⟩
      · exact absurd c5 (by omega)
    | none =>
      rw [E2] at K2
      have K3 := c_r3 (γ := γ) (o := o) hP hw
      cases E3 : fp f3 t.2 with
      | some l =>
        rw [E3] at K3
        rw [show uR t.2 = some (3, l) by unfold uR; rw [E1, E2, E3]; rfl]
        refine Call.of (ls := [(0, vr (some o)), (1, vr (some a))]) vX6_useFirstRule.1 (Nat.le_of_ble_eq_true rfl) rfl ?_
        refine aw_aload_n dX6_useFirstRule_0 rfl ?_
        refine aw_aload_n dX6_useFirstRule_1 rfl ?_
        refine aw_invV_r dX6_useFirstRule_2 vX6_dropIdleStep kX6_43 rfl (K1) ⟨_, (by assumption), _, _, rfl⟩ rfl rfl (by decide) (by decide) (by decide) (Nat.le_of_ble_eq_true rfl) ?_
        refine aw_if_eq (tgt := 10) dX6_useFirstRule_5 rfl (by omega) (fun c5 => ?_) (fun c5 => ?_)
        · refine aw_aload_n dX6_useFirstRule_10 rfl ?_
          refine aw_aload_n dX6_useFirstRule_11 rfl ?_
          refine aw_invV_r dX6_useFirstRule_12 vX6_joinDescentToChild kX6_47 rfl (K2) ⟨_, (by assumption), _, _, rfl⟩ rfl rfl (by decide) (by decide) (by decide) (Nat.le_of_ble_eq_true rfl) ?_
          refine aw_if_eq (tgt := 20) dX6_useFirstRule_15 rfl (by omega) (fun c15 => ?_) (fun c15 => ?_)
          · refine aw_aload_n dX6_useFirstRule_20 rfl ?_
            refine aw_aload_n dX6_useFirstRule_21 rfl ?_
            refine aw_invV_e dX6_useFirstRule_22 vX6_joinDescents kX6_50 rfl (K3) ⟨_, (by assumption), _, _, rfl⟩ rfl rfl (by decide) (by decide) (by decide) (Nat.le_of_ble_eq_true rfl) (fun h1 hP9 => ?_)
            obtain ⟨E9, E10⟩ := hP9
            refine aw_if_eq (tgt := 30) dX6_useFirstRule_25 rfl (by omega) (fun c25 => ?_) (fun c25 => ?_)
            · exact absurd c25 (by omega)
            · refine aw_iconst dX6_useFirstRule_28 ?_
              exact aw_ireturn dX6_useFirstRule_29 rfl (Or.inl rfl) ⟨rfl, E9, E10⟩
          · exact absurd c15 (by omega)
        · exact absurd c5 (by omega)
      | none =>
        rw [E3] at K3
        have K4 := c_r4 (γ := γ) (o := o) hP hw
        cases E4 : fp f4 t.2 with
        | some l =>
          rw [E4] at K4
          rw [show uR t.2 = some (4, l) by unfold uR; rw [E1, E2, E3, E4]; rfl]
          refine Call.of (ls := [(0, vr (some o)), (1, vr (some a))]) vX6_useFirstRule.1 (Nat.le_of_ble_eq_true rfl) rfl ?_
          refine aw_aload_n dX6_useFirstRule_0 rfl ?_
          refine aw_aload_n dX6_useFirstRule_1 rfl ?_
          refine aw_invV_r dX6_useFirstRule_2 vX6_dropIdleStep kX6_43 rfl (K1) ⟨_, (by assumption), _, _, rfl⟩ rfl rfl (by decide) (by decide) (by decide) (Nat.le_of_ble_eq_true rfl) ?_
          refine aw_if_eq (tgt := 10) dX6_useFirstRule_5 rfl (by omega) (fun c5 => ?_) (fun c5 => ?_)
          · refine aw_aload_n dX6_useFirstRule_10 rfl ?_
            refine aw_aload_n dX6_useFirstRule_11 rfl ?_
            refine aw_invV_r dX6_useFirstRule_12 vX6_joinDescentToChild kX6_47 rfl (K2) ⟨_, (by assumption), _, _, rfl⟩ rfl rfl (by decide) (by decide) (by decide) (Nat.le_of_ble_eq_true rfl) ?_
            refine aw_if_eq (tgt := 20) dX6_useFirstRule_15 rfl (by omega) (fun c15 => ?_) (fun c15 => ?_)
            · refine aw_aload_n dX6_useFirstRule_20 rfl ?_
              refine aw_aload_n dX6_useFirstRule_21 rfl ?_
              refine aw_invV_r dX6_useFirstRule_22 vX6_joinDescents kX6_50 rfl (K3) ⟨_, (by assumption), _, _, rfl⟩ rfl rfl (by decide) (by decide) (by decide) (Nat.le_of_ble_eq_true rfl) ?_
              refine aw_if_eq (tgt := 30) dX6_useFirstRule_25 rfl (by omega) (fun c25 => ?_) (fun c25 => ?_)
              · refine aw_aload_n dX6_useFirstRule_30 rfl ?_
                refine aw_aload_n dX6_useFirstRule_31 rfl ?_
                refine aw_invV_e dX6_useFirstRule_32 vX6_turnBackToTest kX6_53 rfl (K4) ⟨_, (by assumption), _, _, rfl⟩ rfl rfl (by decide) (by decide) (by decide) (Nat.le_of_ble_eq_true rfl) (fun h1 hP9 => ?_)
                obtain ⟨E9, E10⟩ := hP9
                refine aw_if_eq (tgt := 40) dX6_useFirstRule_35 rfl (by omega) (fun c35 => ?_) (fun c35 => ?_)
                · exact absurd c35 (by omega)
                · refine aw_iconst dX6_useFirstRule_38 ?_
                  exact aw_ireturn dX6_useFirstRule_39 rfl (Or.inl rfl) ⟨rfl, E9, E10⟩
              · exact absurd c25 (by omega)
            · exact absurd c15 (by omega)
          · exact absurd c5 (by omega)
        | none =>
          rw [E4] at K4
          have K5 := c_r5 (γ := γ) (o := o) hP hw
          cases E5 : fp f5 t.2 with
          | some l =>
            rw [E5] at K5
            rw [show uR t.2 = some (5, l) by unfold uR; rw [E1, E2, E3, E4, E5]; rfl]
            refine Call.of (ls := [(0, vr (some o)), (1, vr (some a))]) vX6_useFirstRule.1 (Nat.le_of_ble_eq_true rfl) rfl ?_
            refine aw_aload_n dX6_useFirstRule_0 rfl ?_
            refine aw_aload_n dX6_useFirstRule_1 rfl ?_
            refine aw_invV_r dX6_useFirstRule_2 vX6_dropIdleStep kX6_43 rfl (K1) ⟨_, (by assumption), _, _, rfl⟩ rfl rfl (by decide) (by decide) (by decide) (Nat.le_of_ble_eq_true rfl) ?_
            refine aw_if_eq (tgt := 10) dX6_useFirstRule_5 rfl (by omega) (fun c5 => ?_) (fun c5 => ?_)
            · refine aw_aload_n dX6_useFirstRule_10 rfl ?_
              refine aw_aload_n dX6_useFirstRule_11 rfl ?_
              refine aw_invV_r dX6_useFirstRule_12 vX6_joinDescentToChild kX6_47 rfl (K2) ⟨_, (by assumption), _, _, rfl⟩ rfl rfl (by decide) (by decide) (by decide) (Nat.le_of_ble_eq_true rfl) ?_
              refine aw_if_eq (tgt := 20) dX6_useFirstRule_15 rfl (by omega) (fun c15 => ?_) (fun c15 => ?_)
              · refine aw_aload_n dX6_useFirstRule_20 rfl ?_
                refine aw_aload_n dX6_useFirstRule_21 rfl ?_
                refine aw_invV_r dX6_useFirstRule_22 vX6_joinDescents kX6_50 rfl (K3) ⟨_, (by assumption), _, _, rfl⟩ rfl rfl (by decide) (by decide) (by decide) (Nat.le_of_ble_eq_true rfl) ?_
                refine aw_if_eq (tgt := 30) dX6_useFirstRule_25 rfl (by omega) (fun c25 => ?_) (fun c25 => ?_)
                · refine aw_aload_n dX6_useFirstRule_30 rfl ?_
                  refine aw_aload_n dX6_useFirstRule_31 rfl ?_
                  refine aw_invV_r dX6_useFirstRule_32 vX6_turnBackToTest kX6_53 rfl (K4) ⟨_, (by assumption), _, _, rfl⟩ rfl rfl (by decide) (by decide) (by decide) (Nat.le_of_ble_eq_true rfl) ?_
                  refine aw_if_eq (tgt := 40) dX6_useFirstRule_35 rfl (by omega) (fun c35 => ?_) (fun c35 => ?_)
                  · refine aw_aload_n dX6_useFirstRule_40 rfl ?_
                    refine aw_aload_n dX6_useFirstRule_41 rfl ?_
                    refine aw_invV_e dX6_useFirstRule_42 vX6_joinPredicates kX6_56 rfl (K5) ⟨_, (by assumption), _, _, rfl⟩ rfl rfl (by decide) (by decide) (by decide) (Nat.le_of_ble_eq_true rfl) (fun h1 hP9 => ?_)
                    obtain ⟨E9, E10⟩ := hP9
                    refine aw_if_eq (tgt := 50) dX6_useFirstRule_45 rfl (by omega) (fun c45 => ?_) (fun c45 => ?_)
                    · exact absurd c45 (by omega)
                    · refine aw_iconst dX6_useFirstRule_48 ?_
                      exact aw_ireturn dX6_useFirstRule_49 rfl (Or.inl rfl) ⟨rfl, E9, E10⟩
                  · exact absurd c35 (by omega)
                · exact absurd c25 (by omega)
              · exact absurd c15 (by omega)
            · exact absurd c5 (by omega)
          | none =>
            rw [E5] at K5
            have K6 := c_uP (γ := γ) (o := o) hP hw
            rw [show uR t.2 = uP t.2 by unfold uR; rw [E1, E2, E3, E4, E5]; rfl]
            cases E6 : uP t.2 with
            | none =>
              rw [E6] at K6
              refine Call.of (ls := [(0, vr (some o)), (1, vr (some a))]) vX6_useFirstRule.1 (Nat.le_of_ble_eq_true rfl) rfl ?_
              refine aw_aload_n dX6_useFirstRule_0 rfl ?_
              refine aw_aload_n dX6_useFirstRule_1 rfl ?_
              refine aw_invV_r dX6_useFirstRule_2 vX6_dropIdleStep kX6_43 rfl (K1) ⟨_, (by assumption), _, _, rfl⟩ rfl rfl (by decide) (by decide) (by decide) (Nat.le_of_ble_eq_true rfl) ?_
              refine aw_if_eq (tgt := 10) dX6_useFirstRule_5 rfl (by omega) (fun c5 => ?_) (fun c5 => ?_)
              · refine aw_aload_n dX6_useFirstRule_10 rfl ?_
                refine aw_aload_n dX6_useFirstRule_11 rfl ?_
                refine aw_invV_r dX6_useFirstRule_12 vX6_joinDescentToChild kX6_47 rfl (K2) ⟨_, (by assumption), _, _, rfl⟩ rfl rfl (by decide) (by decide) (by decide) (Nat.le_of_ble_eq_true rfl) ?_
                refine aw_if_eq (tgt := 20) dX6_useFirstRule_15 rfl (by omega) (fun c15 => ?_) (fun c15 => ?_)
                · refine aw_aload_n dX6_useFirstRule_20 rfl ?_
                  refine aw_aload_n dX6_useFirstRule_21 rfl ?_
                  refine aw_invV_r dX6_useFirstRule_22 vX6_joinDescents kX6_50 rfl (K3) ⟨_, (by assumption), _, _, rfl⟩ rfl rfl (by decide) (by decide) (by decide) (Nat.le_of_ble_eq_true rfl) ?_
                  refine aw_if_eq (tgt := 30) dX6_useFirstRule_25 rfl (by omega) (fun c25 => ?_) (fun c25 => ?_)
                  · refine aw_aload_n dX6_useFirstRule_30 rfl ?_
                    refine aw_aload_n dX6_useFirstRule_31 rfl ?_
                    refine aw_invV_r dX6_useFirstRule_32 vX6_turnBackToTest kX6_53 rfl (K4) ⟨_, (by assumption), _, _, rfl⟩ rfl rfl (by decide) (by decide) (by decide) (Nat.le_of_ble_eq_true rfl) ?_
                    refine aw_if_eq (tgt := 40) dX6_useFirstRule_35 rfl (by omega) (fun c35 => ?_) (fun c35 => ?_)
                    · refine aw_aload_n dX6_useFirstRule_40 rfl ?_
                      refine aw_aload_n dX6_useFirstRule_41 rfl ?_
                      refine aw_invV_r dX6_useFirstRule_42 vX6_joinPredicates kX6_56 rfl (K5) ⟨_, (by assumption), _, _, rfl⟩ rfl rfl (by decide) (by decide) (by decide) (Nat.le_of_ble_eq_true rfl) ?_
                      refine aw_if_eq (tgt := 50) dX6_useFirstRule_45 rfl (by omega) (fun c45 => ?_) (fun c45 => ?_)
                      · refine aw_aload_n dX6_useFirstRule_50 rfl ?_
                        refine aw_aload_n dX6_useFirstRule_51 rfl ?_
                        refine aw_invV_r dX6_useFirstRule_52 vX6_useFirstPredicateRule kX6_59 rfl (K6) ⟨_, (by assumption), _, _, rfl⟩ rfl rfl (by decide) (by decide) (by decide) (Nat.le_of_ble_eq_true rfl) ?_
                        exact aw_ireturn dX6_useFirstRule_55 rfl (Or.inl rfl) ⟨rfl, rfl⟩
                      · exact absurd c45 (by omega)
                    · exact absurd c35 (by omega)
                  · exact absurd c25 (by omega)
                · exact absurd c15 (by omega)
              · exact absurd c5 (by omega)
            | some l =>
              rw [E6] at K6
              refine Call.of (ls := [(0, vr (some o)), (1, vr (some a))]) vX6_useFirstRule.1 (Nat.le_of_ble_eq_true rfl) rfl ?_
              refine aw_aload_n dX6_useFirstRule_0 rfl ?_
              refine aw_aload_n dX6_useFirstRule_1 rfl ?_
              refine aw_invV_r dX6_useFirstRule_2 vX6_dropIdleStep kX6_43 rfl (K1) ⟨_, (by assumption), _, _, rfl⟩ rfl rfl (by decide) (by decide) (by decide) (Nat.le_of_ble_eq_true rfl) ?_
              refine aw_if_eq (tgt := 10) dX6_useFirstRule_5 rfl (by omega) (fun c5 => ?_) (fun c5 => ?_)
              · refine aw_aload_n dX6_useFirstRule_10 rfl ?_
                refine aw_aload_n dX6_useFirstRule_11 rfl ?_
                refine aw_invV_r dX6_useFirstRule_12 vX6_joinDescentToChild kX6_47 rfl (K2) ⟨_, (by assumption), _, _, rfl⟩ rfl rfl (by decide) (by decide) (by decide) (Nat.le_of_ble_eq_true rfl) ?_
                refine aw_if_eq (tgt := 20) dX6_useFirstRule_15 rfl (by omega) (fun c15 => ?_) (fun c15 => ?_)
                · refine aw_aload_n dX6_useFirstRule_20 rfl ?_
                  refine aw_aload_n dX6_useFirstRule_21 rfl ?_
                  refine aw_invV_r dX6_useFirstRule_22 vX6_joinDescents kX6_50 rfl (K3) ⟨_, (by assumption), _, _, rfl⟩ rfl rfl (by decide) (by decide) (by decide) (Nat.le_of_ble_eq_true rfl) ?_
                  refine aw_if_eq (tgt := 30) dX6_useFirstRule_25 rfl (by omega) (fun c25 => ?_) (fun c25 => ?_)
                  · refine aw_aload_n dX6_useFirstRule_30 rfl ?_
                    refine aw_aload_n dX6_useFirstRule_31 rfl ?_
                    refine aw_invV_r dX6_useFirstRule_32 vX6_turnBackToTest kX6_53 rfl (K4) ⟨_, (by assumption), _, _, rfl⟩ rfl rfl (by decide) (by decide) (by decide) (Nat.le_of_ble_eq_true rfl) ?_
                    refine aw_if_eq (tgt := 40) dX6_useFirstRule_35 rfl (by omega) (fun c35 => ?_) (fun c35 => ?_)
                    · refine aw_aload_n dX6_useFirstRule_40 rfl ?_
                      refine aw_aload_n dX6_useFirstRule_41 rfl ?_
                      refine aw_invV_r dX6_useFirstRule_42 vX6_joinPredicates kX6_56 rfl (K5) ⟨_, (by assumption), _, _, rfl⟩ rfl rfl (by decide) (by decide) (by decide) (Nat.le_of_ble_eq_true rfl) ?_
                      refine aw_if_eq (tgt := 50) dX6_useFirstRule_45 rfl (by omega) (fun c45 => ?_) (fun c45 => ?_)
                      · refine aw_aload_n dX6_useFirstRule_50 rfl ?_
                        refine aw_aload_n dX6_useFirstRule_51 rfl ?_
                        refine aw_invV_e dX6_useFirstRule_52 vX6_useFirstPredicateRule kX6_59 rfl (K6) ⟨_, (by assumption), _, _, rfl⟩ rfl rfl (by decide) (by decide) (by decide) (Nat.le_of_ble_eq_true rfl) (fun h1 hP9 => ?_)
                        obtain ⟨E9, E10⟩ := hP9
                        exact aw_ireturn dX6_useFirstRule_55 rfl (Or.inl rfl) ⟨rfl, E9, E10⟩
                      · exact absurd c45 (by omega)
                    · exact absurd c35 (by omega)
                  · exact absurd c25 (by omega)
                · exact absurd c15 (by omega)
              · exact absurd c5 (by omega)
