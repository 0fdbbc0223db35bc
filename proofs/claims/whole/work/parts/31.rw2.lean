/-! ===== Rewriter: rules 3 to 5 ===== -/
theorem set_same {α : Type} {x : α} : ∀ {l : List α} {k : Nat}, l[k]? = some x → l.set k x = l := by
  intro l
  induction l with
  | nil => intro k _; rfl
  | cons b r ih =>
    intro k h
    cases k with
    | zero => simp only [List.getElem?_cons_zero, Option.some.injEq] at h; subst h; rfl
    | succ k => show b :: r.set k x = b :: r; rw [ih (by simpa using h)]
theorem l_r3 {γ : GG} {h : AH} {o : Nat} {a : Nat} {π : Nat → Nat} {t : TT} (hP : isP h a π t) (hw : okW t) : ∀ (m k : Nat), 1 ≤ k → k + m = t.2.length → (∀ j s x, j + 1 < k → t.2[j]? = some s → t.2[j + 1]? = some x → f3 s x = none) → AW γ mX6_joinDescents 2 0 0 2 [(0, vr (some o)), (1, vr (some a)), (2, vi (k : Int))] [] h (rP h a t (fp f3 t.2)) := by
  have hP0 := hP
  obtain ⟨⟨hk, hr, hk1, hπ, hrf, hst⟩, h0, h1, hl8, hss⟩ := hP
  intro m
  induction m with
  | zero =>
    intro k hk1' hkm hj
    rw [fp_none (fun j s x hs hx => hj j s x (by have := (List.getElem?_eq_some_iff.mp hx).1; omega) hs hx)]
    refine aw_iload_n dX6_joinDescents_2 rfl ?_
    refine aw_aload_n dX6_joinDescents_3 rfl ?_
    refine aw_geti' (j := 1) dX6_joinDescents_4 fX6_62 rfl (by assumption) rfl h1 ?_
    refine aw_ic_ge (tgt := 82) dX6_joinDescents_7 rfl (by omega) (by omega) (fun c7 => ?_) (fun c7 => ?_)
    · refine aw_iconst dX6_joinDescents_82 ?_
      exact aw_zreturn dX6_joinDescents_83 rfl (by omega) (Or.inl rfl) ⟨rfl, rfl⟩
    · exact absurd c7 (by omega)
  | succ m ih =>
    intro k hk1' hkm hj
    obtain ⟨s, hs⟩ : ∃ s, t.2[k - 1]? = some s := ⟨_, List.getElem?_eq_getElem (by omega)⟩
    obtain ⟨x, hx⟩ : ∃ x, t.2[k]? = some x := ⟨_, List.getElem?_eq_getElem (by omega)⟩
    have hx' : t.2[k - 1 + 1]? = some x := by rw [show k - 1 + 1 = k by omega]; exact hx
    have hS := hss (k - 1) s hs
    have hX := hss k x hx
    have s1 := hS.1.1
    have s2 := hX.1.1
    have os := hw.2.2 s (List.mem_of_getElem? hs)
    have ox := hw.2.2 x (List.mem_of_getElem? hx)
    have bs := os.1
    have bx := ox.1
    unfold okT at bs bx
    have ek := bsub hk1'
    have pk1 := pm_lt hπ (i := k) (by omega)
    have pk0 := pm_lt hπ (i := k - 1) (by omega)
    have pne : π k ≠ π (k - 1) := fun z => by have := hπ.2 _ _ (by omega) (by omega) z; omega
    have gS : gr h (a + 1) ((k : Int) - 1) = some (a + 2 + 2 * π (k - 1)) := by rw [ek]; exact hrf (k - 1) (by omega)
    have gX := hrf k (by omega)
    have K := c_isPlainAny (γ := γ) (x := 3) hS os (by omega)
    have K2 := c_sisPos (γ := γ) hX ox
    have K40 : AW γ mX6_joinDescents 2 0 0 40 [(0, vr (some o)), (1, vr (some a)), (2, vi (k : Int)), (3, vr (some (a + 2 + 2 * π k))), (4, vi (if x.1.1 = 2 ∨ x.1.1 = 3 then 1 else 0))] [] h (rP h a t (fp f3 t.2)) := by
      by_cases q1 : s.1 = (3, 8) ∧ s.2.length = 0
      · rw [if_pos q1] at K
        by_cases q2 : x.1.1 = 2 ∨ x.1.1 = 3
        · rw [if_pos q2]
          cases q3 : isPosS x with
          | false =>
            rw [q3, if_neg (by decide)] at K2
            have ef : f3 s x = some x := by unfold f3; rw [if_pos ⟨q1, q2, q3⟩]
            have hlt : k - 1 + 1 < t.2.length := by omega
            have e9 := fp_at1 hs hx' ef (fun j p q hj2 hp hq => hj j p q (by omega) hp hq)
            rw [set_erase hlt, show k - 1 + 1 = k by omega, set_same hx] at e9
            rw [e9]
            have K3 := c_prm (γ := γ) hP0 (i := k - 1) (by omega)
            rw [← ek] at K3
            refine aw_aload_n dX6_joinDescents_40 rfl ?_
            refine aw_getr' (j := 2) dX6_joinDescents_41 fX6_65 rfl (by assumption) rfl (by assumption) ?_
            refine aw_iload_n dX6_joinDescents_44 rfl ?_
            refine aw_iconst dX6_joinDescents_45 ?_
            refine aw_isub dX6_joinDescents_46 ?_
            refine aw_aald7' dX6_joinDescents_47 (by assumption) (by omega) (by first | decide | omega) gS ?_
            refine aw_iconst dX6_joinDescents_48 ?_
            refine aw_invV_r dX6_joinDescents_49 vX8_isPlainAny kX6_81 rfl (K) ⟨_, (by assumption), _, _, rfl⟩ rfl rfl (by decide) (by decide) (by decide) (Nat.le_of_ble_eq_true rfl) ?_
            refine aw_if_eq (tgt := 76) dX6_joinDescents_52 rfl (by omega) (fun c52 => ?_) (fun c52 => ?_)
            · exact absurd c52 (by omega)
            · refine aw_iload dX6_joinDescents_55 rfl ?_
              refine aw_if_eq (tgt := 76) dX6_joinDescents_57 rfl (by omega) (fun c57 => ?_) (fun c57 => ?_)
              · exact absurd c57 (by omega)
              · refine aw_aload_n dX6_joinDescents_60 rfl ?_
                refine aw_invV_r dX6_joinDescents_61 vX8_isPositional kX6_90 rfl (K2) ⟨_, (by assumption), _, _, rfl⟩ rfl rfl (by decide) (by decide) (by decide) (Nat.le_of_ble_eq_true rfl) ?_
                refine aw_if_ne (tgt := 76) dX6_joinDescents_64 rfl (by omega) (fun c64 => ?_) (fun c64 => ?_)
                · exact absurd c64 (by omega)
                · refine aw_aload_n dX6_joinDescents_67 rfl ?_
                  refine aw_iload_n dX6_joinDescents_68 rfl ?_
                  refine aw_iconst dX6_joinDescents_69 ?_
                  refine aw_isub dX6_joinDescents_70 ?_
                  refine aw_invV_n dX6_joinDescents_71 vX4_removeStep kX6_84 rfl (K3) ⟨_, (by assumption), _, _, rfl⟩ rfl rfl (by decide) (by decide) (by decide) (Nat.le_of_ble_eq_true rfl) ?_
                  refine aw_iconst dX6_joinDescents_74 ?_
                  exact aw_zreturn dX6_joinDescents_75 rfl (by omega) (Or.inl rfl) ⟨rfl, isP_hop hP0 hw (by omega) (by omega)⟩
          | true =>
            rw [q3, if_pos rfl] at K2
            have ih' := ih (k + 1) (by omega) (by omega) (fun j p y hj2 hp hy => by
          by_cases q9 : j + 1 = k
          · rw [show j = k - 1 by omega, hs] at hp
            rw [q9, hx] at hy
            rw [← Option.some.inj hp, ← Option.some.inj hy]
            exact by unfold f3; rw [if_neg (fun z => by rw [q3] at z; exact absurd z.2.2 (by decide))]
          · exact hj j p y (by omega) hp hy)
            refine aw_aload_n dX6_joinDescents_40 rfl ?_
            refine aw_getr' (j := 2) dX6_joinDescents_41 fX6_65 rfl (by assumption) rfl (by assumption) ?_
            refine aw_iload_n dX6_joinDescents_44 rfl ?_
            refine aw_iconst dX6_joinDescents_45 ?_
            refine aw_isub dX6_joinDescents_46 ?_
            refine aw_aald7' dX6_joinDescents_47 (by assumption) (by omega) (by first | decide | omega) gS ?_
            refine aw_iconst dX6_joinDescents_48 ?_
            refine aw_invV_r dX6_joinDescents_49 vX8_isPlainAny kX6_81 rfl (K) ⟨_, (by assumption), _, _, rfl⟩ rfl rfl (by decide) (by decide) (by decide) (Nat.le_of_ble_eq_true rfl) ?_
            refine aw_if_eq (tgt := 76) dX6_joinDescents_52 rfl (by omega) (fun c52 => ?_) (fun c52 => ?_)
            · exact absurd c52 (by omega)
            · refine aw_iload dX6_joinDescents_55 rfl ?_
              refine aw_if_eq (tgt := 76) dX6_joinDescents_57 rfl (by omega) (fun c57 => ?_) (fun c57 => ?_)
              · exact absurd c57 (by omega)
              · refine aw_aload_n dX6_joinDescents_60 rfl ?_
                refine aw_invV_r dX6_joinDescents_61 vX8_isPositional kX6_90 rfl (K2) ⟨_, (by assumption), _, _, rfl⟩ rfl rfl (by decide) (by decide) (by decide) (Nat.le_of_ble_eq_true rfl) ?_
                refine aw_if_ne (tgt := 76) dX6_joinDescents_64 rfl (by omega) (fun c64 => ?_) (fun c64 => ?_)
                · refine aw_iinc (k9 := 2) (ls1 := [(2, _), (0, _), (1, _), (3, _), (4, _)]) dX6_joinDescents_76 rfl (by decide) rfl ?_
                  refine aw_goto (tgt := 2) dX6_joinDescents_79 rfl ?_
                  refine aw_sub [1, 2, 0] rfl ?_
                  exact ih'
                · exact absurd c64 (by omega)
        · rw [if_neg q2]
          have ih' := ih (k + 1) (by omega) (by omega) (fun j p y hj2 hp hy => by
          by_cases q9 : j + 1 = k
          · rw [show j = k - 1 by omega, hs] at hp
            rw [q9, hx] at hy
            rw [← Option.some.inj hp, ← Option.some.inj hy]
            exact by unfold f3; rw [if_neg (fun z => q2 z.2.1)]
          · exact hj j p y (by omega) hp hy)
          refine aw_aload_n dX6_joinDescents_40 rfl ?_
          refine aw_getr' (j := 2) dX6_joinDescents_41 fX6_65 rfl (by assumption) rfl (by assumption) ?_
          refine aw_iload_n dX6_joinDescents_44 rfl ?_
          refine aw_iconst dX6_joinDescents_45 ?_
          refine aw_isub dX6_joinDescents_46 ?_
          refine aw_aald7' dX6_joinDescents_47 (by assumption) (by omega) (by first | decide | omega) gS ?_
          refine aw_iconst dX6_joinDescents_48 ?_
          refine aw_invV_r dX6_joinDescents_49 vX8_isPlainAny kX6_81 rfl (K) ⟨_, (by assumption), _, _, rfl⟩ rfl rfl (by decide) (by decide) (by decide) (Nat.le_of_ble_eq_true rfl) ?_
          refine aw_if_eq (tgt := 76) dX6_joinDescents_52 rfl (by omega) (fun c52 => ?_) (fun c52 => ?_)
          · exact absurd c52 (by omega)
          · refine aw_iload dX6_joinDescents_55 rfl ?_
            refine aw_if_eq (tgt := 76) dX6_joinDescents_57 rfl (by omega) (fun c57 => ?_) (fun c57 => ?_)
            · refine aw_iinc (k9 := 2) (ls1 := [(2, _), (0, _), (1, _), (3, _), (4, _)]) dX6_joinDescents_76 rfl (by decide) rfl ?_
              refine aw_goto (tgt := 2) dX6_joinDescents_79 rfl ?_
              refine aw_sub [1, 2, 0] rfl ?_
              exact ih'
            · exact absurd c57 (by omega)
      · rw [if_neg q1] at K
        have ih' := ih (k + 1) (by omega) (by omega) (fun j p y hj2 hp hy => by
          by_cases q9 : j + 1 = k
          · rw [show j = k - 1 by omega, hs] at hp
            rw [q9, hx] at hy
            rw [← Option.some.inj hp, ← Option.some.inj hy]
            exact by unfold f3; rw [if_neg (fun z => q1 z.1)]
          · exact hj j p y (by omega) hp hy)
        refine aw_aload_n dX6_joinDescents_40 rfl ?_
        refine aw_getr' (j := 2) dX6_joinDescents_41 fX6_65 rfl (by assumption) rfl (by assumption) ?_
        refine aw_iload_n dX6_joinDescents_44 rfl ?_
        refine aw_iconst dX6_joinDescents_45 ?_
        refine aw_isub dX6_joinDescents_46 ?_
        refine aw_aald7' dX6_joinDescents_47 (by assumption) (by omega) (by first | decide | omega) gS ?_
        refine aw_iconst dX6_joinDescents_48 ?_
        refine aw_invV_r dX6_joinDescents_49 vX8_isPlainAny kX6_81 rfl (K) ⟨_, (by assumption), _, _, rfl⟩ rfl rfl (by decide) (by decide) (by decide) (Nat.le_of_ble_eq_true rfl) ?_
        refine aw_if_eq (tgt := 76) dX6_joinDescents_52 rfl (by omega) (fun c52 => ?_) (fun c52 => ?_)
        · refine aw_iinc (k9 := 2) (ls1 := [(2, _), (0, _), (1, _), (3, _), (4, _)]) dX6_joinDescents_76 rfl (by decide) rfl ?_
          refine aw_goto (tgt := 2) dX6_joinDescents_79 rfl ?_
          refine aw_sub [1, 2, 0] rfl ?_
          exact ih'
        · exact absurd c52 (by omega)
    by_cases b2 : x.1.1 = 2
    · rw [if_pos (Or.inl b2)] at K40
      refine aw_iload_n dX6_joinDescents_2 rfl ?_
      refine aw_aload_n dX6_joinDescents_3 rfl ?_
      refine aw_geti' (j := 1) dX6_joinDescents_4 fX6_62 rfl (by assumption) rfl h1 ?_
      refine aw_ic_ge (tgt := 82) dX6_joinDescents_7 rfl (by omega) (by omega) (fun c7 => ?_) (fun c7 => ?_)
      · exact absurd c7 (by omega)
      · refine aw_aload_n dX6_joinDescents_10 rfl ?_
        refine aw_getr' (j := 2) dX6_joinDescents_11 fX6_65 rfl (by assumption) rfl (by assumption) ?_
        refine aw_iload_n dX6_joinDescents_14 rfl ?_
        refine aw_aald7' dX6_joinDescents_15 (by assumption) (by omega) (by first | decide | omega) gX ?_
        refine aw_astore_n (ls1 := [(3, _), (0, _), (1, _), (2, _)]) dX6_joinDescents_16 (by decide) rfl ?_
        refine aw_aload_n dX6_joinDescents_17 rfl ?_
        refine aw_geti' (j := 0) dX6_joinDescents_18 fX6_87 rfl (by assumption) rfl hX.2.1 ?_
        refine aw_iconst dX6_joinDescents_21 ?_
        refine aw_ic_eq (tgt := 33) dX6_joinDescents_22 rfl (by omega) (by omega) (fun c22 => ?_) (fun c22 => ?_)
        · refine aw_iconst dX6_joinDescents_33 ?_
          refine aw_goto (tgt := 38) dX6_joinDescents_34 rfl ?_
          refine aw_istore (ls1 := [(4, _), (3, _), (0, _), (1, _), (2, _)]) dX6_joinDescents_38 (by decide) rfl ?_
          refine aw_sub [2, 3, 4, 1, 0] rfl ?_
          exact K40
        · exact absurd c22 (by omega)
    · by_cases b3 : x.1.1 = 3
      · rw [if_pos (Or.inr b3)] at K40
        refine aw_iload_n dX6_joinDescents_2 rfl ?_
        refine aw_aload_n dX6_joinDescents_3 rfl ?_
        refine aw_geti' (j := 1) dX6_joinDescents_4 fX6_62 rfl (by assumption) rfl h1 ?_
        refine aw_ic_ge (tgt := 82) dX6_joinDescents_7 rfl (by omega) (by omega) (fun c7 => ?_) (fun c7 => ?_)
        · exact absurd c7 (by omega)
        · refine aw_aload_n dX6_joinDescents_10 rfl ?_
          refine aw_getr' (j := 2) dX6_joinDescents_11 fX6_65 rfl (by assumption) rfl (by assumption) ?_
          refine aw_iload_n dX6_joinDescents_14 rfl ?_
          refine aw_aald7' dX6_joinDescents_15 (by assumption) (by omega) (by first | decide | omega) gX ?_
          refine aw_astore_n (ls1 := [(3, _), (0, _), (1, _), (2, _)]) dX6_joinDescents_16 (by decide) rfl ?_
          refine aw_aload_n dX6_joinDescents_17 rfl ?_
          refine aw_geti' (j := 0) dX6_joinDescents_18 fX6_87 rfl (by assumption) rfl hX.2.1 ?_
          refine aw_iconst dX6_joinDescents_21 ?_
          refine aw_ic_eq (tgt := 33) dX6_joinDescents_22 rfl (by omega) (by omega) (fun c22 => ?_) (fun c22 => ?_)
          · exact absurd c22 (by omega)
          · refine aw_aload_n dX6_joinDescents_25 rfl ?_
            refine aw_geti' (j := 0) dX6_joinDescents_26 fX6_87 rfl (by assumption) rfl hX.2.1 ?_
            refine aw_iconst dX6_joinDescents_29 ?_
            refine aw_ic_ne (tgt := 37) dX6_joinDescents_30 rfl (by omega) (by omega) (fun c30 => ?_) (fun c30 => ?_)
            · exact absurd c30 (by omega)
            · refine aw_iconst dX6_joinDescents_33 ?_
              refine aw_goto (tgt := 38) dX6_joinDescents_34 rfl ?_
              refine aw_istore (ls1 := [(4, _), (3, _), (0, _), (1, _), (2, _)]) dX6_joinDescents_38 (by decide) rfl ?_
              refine aw_sub [2, 3, 4, 1, 0] rfl ?_
              exact K40
      · rw [if_neg (fun z => z.elim b2 b3)] at K40
        refine aw_iload_n dX6_joinDescents_2 rfl ?_
        refine aw_aload_n dX6_joinDescents_3 rfl ?_
        refine aw_geti' (j := 1) dX6_joinDescents_4 fX6_62 rfl (by assumption) rfl h1 ?_
        refine aw_ic_ge (tgt := 82) dX6_joinDescents_7 rfl (by omega) (by omega) (fun c7 => ?_) (fun c7 => ?_)
        · exact absurd c7 (by omega)
        · refine aw_aload_n dX6_joinDescents_10 rfl ?_
          refine aw_getr' (j := 2) dX6_joinDescents_11 fX6_65 rfl (by assumption) rfl (by assumption) ?_
          refine aw_iload_n dX6_joinDescents_14 rfl ?_
          refine aw_aald7' dX6_joinDescents_15 (by assumption) (by omega) (by first | decide | omega) gX ?_
          refine aw_astore_n (ls1 := [(3, _), (0, _), (1, _), (2, _)]) dX6_joinDescents_16 (by decide) rfl ?_
          refine aw_aload_n dX6_joinDescents_17 rfl ?_
          refine aw_geti' (j := 0) dX6_joinDescents_18 fX6_87 rfl (by assumption) rfl hX.2.1 ?_
          refine aw_iconst dX6_joinDescents_21 ?_
          refine aw_ic_eq (tgt := 33) dX6_joinDescents_22 rfl (by omega) (by omega) (fun c22 => ?_) (fun c22 => ?_)
          · exact absurd c22 (by omega)
          · refine aw_aload_n dX6_joinDescents_25 rfl ?_
            refine aw_geti' (j := 0) dX6_joinDescents_26 fX6_87 rfl (by assumption) rfl hX.2.1 ?_
            refine aw_iconst dX6_joinDescents_29 ?_
            refine aw_ic_ne (tgt := 37) dX6_joinDescents_30 rfl (by omega) (by omega) (fun c30 => ?_) (fun c30 => ?_)
            · refine aw_iconst dX6_joinDescents_37 ?_
              refine aw_istore (ls1 := [(4, _), (3, _), (0, _), (1, _), (2, _)]) dX6_joinDescents_38 (by decide) rfl ?_
              refine aw_sub [2, 3, 4, 1, 0] rfl ?_
              exact K40
            · exact absurd c30 (by omega)
theorem c_r3 {γ : GG} {h : AH} {o : Nat} {a : Nat} {π : Nat → Nat} {t : TT} (hP : isP h a π t) (hw : okW t) : Call γ mX6_joinDescents 2 0 0 [vr (some o), vr (some a)] h (rP h a t (fp f3 t.2)) := by
  have K := l_r3 (γ := γ) (o := o) hP hw (t.2.length - 1) 1 (by omega) (by have := hw.1; omega) (fun j s x hj => absurd hj (by omega))
  refine Call.of (ls := [(0, vr (some o)), (1, vr (some a))]) vX6_joinDescents.1 (Nat.le_of_ble_eq_true rfl) rfl ?_
  refine aw_iconst dX6_joinDescents_0 ?_
  refine aw_istore_n (ls1 := [(2, _), (0, _), (1, _)]) dX6_joinDescents_1 (by decide) rfl ?_
  refine aw_sub [1, 2, 0] rfl ?_
  exact K
def c4 (te : Int) : TC := (false, 3, 0, [(0, te)])
def f4 (s t : TS) : Option TS := if s.2.length = 0 ∧ s.1.1 = 0 ∧ (t.1 = (6, 8) ∧ t.2.length = 0) then some ((1, 8), [[[c4 s.1.2]]]) else none
def hAsk (h : AH) (a : Nat) (te : Int) : AH := si (si (hBegin h a 1 8) a 2 (0 + 1)) (a + 1) (0 * 9) (4 + (0 + 16 * te) * ((2 ^ (6 + 8 * 0) : Nat) : Int) + 16)
theorem slot_one (c : TC) (k : Nat) : slotv [[[c]]] k = if k = 0 then pk c else 0 := by
  rw [slotv_so, cAt_cons', aAt_cons]
  by_cases q : k = 0
  · subst q; rfl
  · rw [if_neg q]
    by_cases q1 : k < 9
    · rw [if_pos q1]
      by_cases q2 : k < 3
      · rw [if_pos q2, List.getElem?_eq_none (by simp; omega)]; rfl
      · rw [if_neg q2]; rfl
    · rw [if_neg q1]; rfl
theorem isS_hAsk {h : AH} {a : Nat} {te : Int} (hs : shS h a) : isS (hAsk h a te) a ((1, 8), [[[c4 te]]]) := by
  obtain ⟨b0, b1, b2, b3, b4⟩ := isS_hBegin (x := 1) (t := 8) hs
  unfold hAsk
  refine ⟨hs, ?_, ?_, ?_, fun k hk => ?_⟩
  · rw [gi_ne (Or.inl (by omega)), gi_ne (Or.inr (by omega))]; exact b1
  · rw [gi_ne (Or.inl (by omega)), gi_ne (Or.inr (by omega))]; exact b2
  · rw [gi_ne (Or.inl (by omega)), gi_at rfl rfl]; rfl
  · rw [slot_one]
    by_cases q : k = 0
    · subst q
      rw [if_pos rfl]
      refine (gi_at rfl (by omega)).trans ?_
      simp [pk, c4, pks]
      omega
    · rw [gi_ne (Or.inr (by omega)), gi_ne (Or.inl (by omega)), if_neg q, b4 k hk]
      simp [slotv]
theorem eqO_hAsk {h : AH} {a : Nat} {te : Int} : eqO h (hAsk h a te) a (a + 2) := by
  unfold hAsk
  exact ((eqO_hBegin h a 1 8).tr (eqO.si (by omega) (by omega))).tr (eqO.si (by omega) (by omega))
theorem okS_ask {te : Int} (h : 0 ≤ te ∧ te ≤ 8) : okS ((1, 8), [[[c4 te]]]) := by
  refine ⟨by unfold okT; simp, by simp, fun p hp => ?_⟩
  simp only [List.mem_singleton] at hp
  subst hp
  refine ⟨by simp, by simp, fun b hb => ?_⟩
  simp only [List.mem_singleton] at hb
  subst hb
  refine ⟨by simp, by simp, fun c hc => ?_⟩
  simp only [List.mem_singleton] at hc
  subst hc
  refine Or.inr (Or.inr (Or.inr ⟨rfl, rfl, by simp [c4], by simp [c4], fun x hx => ?_⟩))
  simp only [c4, List.mem_singleton] at hx
  subst hx
  unfold okT
  dsimp only
  omega
theorem l_r4 {γ : GG} {h : AH} {o : Nat} {a : Nat} {π : Nat → Nat} {t : TT} (hP : isP h a π t) (hw : okW t) : ∀ (m k : Nat), 1 ≤ k → k + m = t.2.length → (∀ j s x, j + 1 < k → t.2[j]? = some s → t.2[j + 1]? = some x → f4 s x = none) → AW γ mX6_turnBackToTest 2 0 0 2 [(0, vr (some o)), (1, vr (some a)), (2, vi (k : Int))] [] h (rP h a t (fp f4 t.2)) := by
  have hP0 := hP
  obtain ⟨⟨hk, hr, hk1, hπ, hrf, hst⟩, h0, h1, hl8, hss⟩ := hP
  intro m
  induction m with
  | zero =>
    intro k hk1' hkm hj
    rw [fp_none (fun j s x hs hx => hj j s x (by have := (List.getElem?_eq_some_iff.mp hx).1; omega) hs hx)]
    refine aw_iload_n dX6_turnBackToTest_2 rfl ?_
    refine aw_aload_n dX6_turnBackToTest_3 rfl ?_
    refine aw_geti' (j := 1) dX6_turnBackToTest_4 fX6_62 rfl (by assumption) rfl h1 ?_
    refine aw_ic_ge (tgt := 88) dX6_turnBackToTest_7 rfl (by omega) (by omega) (fun c7 => ?_) (fun c7 => ?_)
    · refine aw_iconst dX6_turnBackToTest_88 ?_
      exact aw_zreturn dX6_turnBackToTest_89 rfl (by omega) (Or.inl rfl) ⟨rfl, rfl⟩
    · exact absurd c7 (by omega)
  | succ m ih =>
    intro k hk1' hkm hj
    obtain ⟨s, hs⟩ : ∃ s, t.2[k - 1]? = some s := ⟨_, List.getElem?_eq_getElem (by omega)⟩
    obtain ⟨x, hx⟩ : ∃ x, t.2[k]? = some x := ⟨_, List.getElem?_eq_getElem (by omega)⟩
    have hx' : t.2[k - 1 + 1]? = some x := by rw [show k - 1 + 1 = k by omega]; exact hx
    have hS := hss (k - 1) s hs
    have hX := hss k x hx
    have s1 := hS.1.1
    have s2 := hX.1.1
    have os := hw.2.2 s (List.mem_of_getElem? hs)
    have ox := hw.2.2 x (List.mem_of_getElem? hx)
    have bs := os.1
    have bx := ox.1
    unfold okT at bs bx
    have ek := bsub hk1'
    have pk1 := pm_lt hπ (i := k) (by omega)
    have pk0 := pm_lt hπ (i := k - 1) (by omega)
    have pne : π k ≠ π (k - 1) := fun z => by have := hπ.2 _ _ (by omega) (by omega) z; omega
    have gS : gr h (a + 1) ((k : Int) - 1) = some (a + 2 + 2 * π (k - 1)) := by rw [ek]; exact hrf (k - 1) (by omega)
    have gX := hrf k (by omega)
    have K := c_isPlainAny (γ := γ) (x := 6) hX ox (by omega)
    have l3 := os.2.1
    by_cases q1 : s.2.length = 0
    · by_cases q2 : s.1.1 = 0
      · by_cases q3 : x.1 = (6, 8) ∧ x.2.length = 0
        · rw [if_pos q3] at K
          have ef : f4 s x = some ((1, 8), [[[c4 s.1.2]]]) := by unfold f4; rw [if_pos ⟨q1, q2, q3⟩]
          have e9 := fp_at1 hs hx' ef (fun j p q hj2 hp hq => hj j p q (by omega) hp hq)
          rw [show k - 1 + 1 = k by omega] at e9
          rw [e9]
          have hsh := hS.1
          have hI := hP0.set (i := k - 1) (by omega) (isS_hAsk (te := s.1.2) hsh) eqO_hAsk
          have hW2 : okW (t.1, t.2.set (k - 1) ((1, 8), [[[c4 s.1.2]]])) := okW_set hw (okS_ask ⟨bs.2.2.1, bs.2.2.2⟩)
          have K3 := c_prm (γ := γ) hI (i := k) (by show k < (t.2.set (k - 1) _).length; rw [List.length_set]; omega)
          have hB := isS_hBegin (h := h) (x := 1) (t := 8) hsh
          have g0 : gi (hBegin h (a + 2 + 2 * π (k - 1)) 1 8) (a + 2 + 2 * π (k - 1)) 2 = 0 := hB.2.2.2.1
          have KO := c_openP (γ := γ) hB.1 (by omega)
          rw [g0] at KO
          have KW := c_withStep (γ := γ) (h := si (hBegin h (a + 2 + 2 * π (k - 1)) 1 8) (a + 2 + 2 * π (k - 1)) 2 (0 + 1)) (c := 4) (a := 0) (t := s.1.2) (k := 0) (by omega) (by decide) (by decide) (by omega) ⟨bs.2.2.1, bs.2.2.2⟩
          have KS := c_setC (γ := γ) (h := si (hBegin h (a + 2 + 2 * π (k - 1)) 1 8) (a + 2 + 2 * π (k - 1)) 2 (0 + 1)) (a := a + 2 + 2 * π (k - 1)) (k := 0 * 9) (z := 4 + (0 + 16 * s.1.2) * ((2 ^ (6 + 8 * 0) : Nat) : Int) + 16) hsh (by omega)
          refine aw_iload_n dX6_turnBackToTest_2 rfl ?_
          refine aw_aload_n dX6_turnBackToTest_3 rfl ?_
          refine aw_geti' (j := 1) dX6_turnBackToTest_4 fX6_62 rfl (by assumption) rfl h1 ?_
          refine aw_ic_ge (tgt := 88) dX6_turnBackToTest_7 rfl (by omega) (by omega) (fun c7 => ?_) (fun c7 => ?_)
          · exact absurd c7 (by omega)
          · refine aw_aload_n dX6_turnBackToTest_10 rfl ?_
            refine aw_getr' (j := 2) dX6_turnBackToTest_11 fX6_65 rfl (by assumption) rfl (by assumption) ?_
            refine aw_iload_n dX6_turnBackToTest_14 rfl ?_
            refine aw_iconst dX6_turnBackToTest_15 ?_
            refine aw_isub dX6_turnBackToTest_16 ?_
            refine aw_aald7' dX6_turnBackToTest_17 (by assumption) (by omega) (by first | decide | omega) gS ?_
            refine aw_astore_n (ls1 := [(3, _), (0, _), (1, _), (2, _)]) dX6_turnBackToTest_18 (by decide) rfl ?_
            refine aw_aload_n dX6_turnBackToTest_19 rfl ?_
            refine aw_geti' (j := 2) dX6_turnBackToTest_20 fX6_93 rfl (by assumption) rfl hS.2.2.2.1 ?_
            refine aw_if_ne (tgt := 82) dX6_turnBackToTest_23 rfl (by omega) (fun c23 => ?_) (fun c23 => ?_)
            · exact absurd c23 (by omega)
            · refine aw_aload_n dX6_turnBackToTest_26 rfl ?_
              refine aw_geti' (j := 0) dX6_turnBackToTest_27 fX6_87 rfl (by assumption) rfl hS.2.1 ?_
              refine aw_if_ne (tgt := 82) dX6_turnBackToTest_30 rfl (by omega) (fun c30 => ?_) (fun c30 => ?_)
              · exact absurd c30 (by omega)
              · refine aw_aload_n dX6_turnBackToTest_33 rfl ?_
                refine aw_getr' (j := 2) dX6_turnBackToTest_34 fX6_65 rfl (by assumption) rfl (by assumption) ?_
                refine aw_iload_n dX6_turnBackToTest_37 rfl ?_
                refine aw_aald7' dX6_turnBackToTest_38 (by assumption) (by omega) (by first | decide | omega) gX ?_
                refine aw_bipush dX6_turnBackToTest_39 rfl ?_
                refine aw_invV_r dX6_turnBackToTest_41 vX8_isPlainAny kX6_81 rfl (K) ⟨_, (by assumption), _, _, rfl⟩ rfl rfl (by decide) (by decide) (by decide) (Nat.le_of_ble_eq_true rfl) ?_
                refine aw_if_eq (tgt := 82) dX6_turnBackToTest_44 rfl (by omega) (fun c44 => ?_) (fun c44 => ?_)
                · exact absurd c44 (by omega)
                · refine aw_aload_n dX6_turnBackToTest_47 rfl ?_
                  refine aw_geti' (j := 1) dX6_turnBackToTest_48 fX6_96 rfl (by assumption) rfl hS.2.2.1 ?_
                  refine aw_istore (ls1 := [(4, _), (3, _), (0, _), (1, _), (2, _)]) dX6_turnBackToTest_51 (by decide) rfl ?_
                  refine aw_aload_n dX6_turnBackToTest_53 rfl ?_
                  refine aw_iconst dX6_turnBackToTest_54 ?_
                  refine aw_bipush dX6_turnBackToTest_55 rfl ?_
                  refine aw_invV_n dX6_turnBackToTest_57 vX8_begin kX6_99 rfl (c_sbegin hsh) ⟨_, (by assumption), _, _, rfl⟩ rfl rfl (by decide) (by decide) (by decide) (Nat.le_of_ble_eq_true rfl) ?_
                  refine aw_aload_n dX6_turnBackToTest_60 rfl ?_
                  refine aw_aload_n dX6_turnBackToTest_61 rfl ?_
                  refine aw_invV_r dX6_turnBackToTest_62 vX8_openPredicate kX6_103 rfl (KO) ⟨_, (by exact s1), _, _, rfl⟩ rfl rfl (by decide) (by decide) (by decide) (Nat.le_of_ble_eq_true rfl) ?_
                  refine aw_iconst dX6_turnBackToTest_65 ?_
                  refine aw_iconst dX6_turnBackToTest_66 ?_
                  refine aw_iload dX6_turnBackToTest_67 rfl ?_
                  refine aw_invS_r dX6_turnBackToTest_69 sX0_withStep kX6_109 rfl (KW) rfl rfl (by decide) (by decide) (by decide) (Nat.le_of_ble_eq_true rfl) ?_
                  refine aw_invV_n dX6_turnBackToTest_72 vX8_setCondition kX6_113 rfl (KS) ⟨_, (by exact s1), _, _, rfl⟩ rfl rfl (by decide) (by decide) (by decide) (Nat.le_of_ble_eq_true rfl) ?_
                  refine aw_aload_n dX6_turnBackToTest_75 rfl ?_
                  refine aw_iload_n dX6_turnBackToTest_76 rfl ?_
                  refine aw_invV_n dX6_turnBackToTest_77 vX4_removeStep kX6_84 rfl (K3) ⟨_, (by exact hk), _, _, rfl⟩ rfl rfl (by decide) (by decide) (by decide) (Nat.le_of_ble_eq_true rfl) ?_
                  refine aw_iconst dX6_turnBackToTest_80 ?_
                  exact aw_zreturn dX6_turnBackToTest_81 rfl (by omega) (Or.inl rfl) ⟨rfl, isP_hop2 (t := t) hI hW2 (eqO_hAsk.mono (by omega) (by omega)) (by rw [List.length_set]; omega) (by rw [List.length_set]; omega)⟩
        · rw [if_neg q3] at K
          have ih' := ih (k + 1) (by omega) (by omega) (fun j p y hj2 hp hy => by
          by_cases q9 : j + 1 = k
          · rw [show j = k - 1 by omega, hs] at hp
            rw [q9, hx] at hy
            rw [← Option.some.inj hp, ← Option.some.inj hy]
            exact by unfold f4; rw [if_neg (fun z => q3 z.2.2)]
          · exact hj j p y (by omega) hp hy)
          refine aw_iload_n dX6_turnBackToTest_2 rfl ?_
          refine aw_aload_n dX6_turnBackToTest_3 rfl ?_
          refine aw_geti' (j := 1) dX6_turnBackToTest_4 fX6_62 rfl (by assumption) rfl h1 ?_
          refine aw_ic_ge (tgt := 88) dX6_turnBackToTest_7 rfl (by omega) (by omega) (fun c7 => ?_) (fun c7 => ?_)
          · exact absurd c7 (by omega)
          · refine aw_aload_n dX6_turnBackToTest_10 rfl ?_
            refine aw_getr' (j := 2) dX6_turnBackToTest_11 fX6_65 rfl (by assumption) rfl (by assumption) ?_
            refine aw_iload_n dX6_turnBackToTest_14 rfl ?_
            refine aw_iconst dX6_turnBackToTest_15 ?_
            refine aw_isub dX6_turnBackToTest_16 ?_
            refine aw_aald7' dX6_turnBackToTest_17 (by assumption) (by omega) (by first | decide | omega) gS ?_
            refine aw_astore_n (ls1 := [(3, _), (0, _), (1, _), (2, _)]) dX6_turnBackToTest_18 (by decide) rfl ?_
            refine aw_aload_n dX6_turnBackToTest_19 rfl ?_
            refine aw_geti' (j := 2) dX6_turnBackToTest_20 fX6_93 rfl (by assumption) rfl hS.2.2.2.1 ?_
            refine aw_if_ne (tgt := 82) dX6_turnBackToTest_23 rfl (by omega) (fun c23 => ?_) (fun c23 => ?_)
            · exact absurd c23 (by omega)
            · refine aw_aload_n dX6_turnBackToTest_26 rfl ?_
              refine aw_geti' (j := 0) dX6_turnBackToTest_27 fX6_87 rfl (by assumption) rfl hS.2.1 ?_
              refine aw_if_ne (tgt := 82) dX6_turnBackToTest_30 rfl (by omega) (fun c30 => ?_) (fun c30 => ?_)
              · exact absurd c30 (by omega)
              · refine aw_aload_n dX6_turnBackToTest_33 rfl ?_
                refine aw_getr' (j := 2) dX6_turnBackToTest_34 fX6_65 rfl (by assumption) rfl (by assumption) ?_
                refine aw_iload_n dX6_turnBackToTest_37 rfl ?_
                refine aw_aald7' dX6_turnBackToTest_38 (by assumption) (by omega) (by first | decide | omega) gX ?_
                refine aw_bipush dX6_turnBackToTest_39 rfl ?_
                refine aw_invV_r dX6_turnBackToTest_41 vX8_isPlainAny kX6_81 rfl (K) ⟨_, (by assumption), _, _, rfl⟩ rfl rfl (by decide) (by decide) (by decide) (Nat.le_of_ble_eq_true rfl) ?_
                refine aw_if_eq (tgt := 82) dX6_turnBackToTest_44 rfl (by omega) (fun c44 => ?_) (fun c44 => ?_)
                · refine aw_iinc (k9 := 3) (ls1 := [(2, _), (3, _), (0, _), (1, _)]) dX6_turnBackToTest_82 rfl (by decide) rfl ?_
                  refine aw_goto (tgt := 2) dX6_turnBackToTest_85 rfl ?_
                  refine aw_sub [2, 3, 0] rfl ?_
                  exact ih'
                · exact absurd c44 (by omega)
      · have ih' := ih (k + 1) (by omega) (by omega) (fun j p y hj2 hp hy => by
          by_cases q9 : j + 1 = k
          · rw [show j = k - 1 by omega, hs] at hp
            rw [q9, hx] at hy
            rw [← Option.some.inj hp, ← Option.some.inj hy]
            exact by unfold f4; rw [if_neg (fun z => q2 z.2.1)]
          · exact hj j p y (by omega) hp hy)
        refine aw_iload_n dX6_turnBackToTest_2 rfl ?_
        refine aw_aload_n dX6_turnBackToTest_3 rfl ?_
        refine aw_geti' (j := 1) dX6_turnBackToTest_4 fX6_62 rfl (by assumption) rfl h1 ?_
        refine aw_ic_ge (tgt := 88) dX6_turnBackToTest_7 rfl (by omega) (by omega) (fun c7 => ?_) (fun c7 => ?_)
        · exact absurd c7 (by omega)
        · refine aw_aload_n dX6_turnBackToTest_10 rfl ?_
          refine aw_getr' (j := 2) dX6_turnBackToTest_11 fX6_65 rfl (by assumption) rfl (by assumption) ?_
          refine aw_iload_n dX6_turnBackToTest_14 rfl ?_
          refine aw_iconst dX6_turnBackToTest_15 ?_
          refine aw_isub dX6_turnBackToTest_16 ?_
          refine aw_aald7' dX6_turnBackToTest_17 (by assumption) (by omega) (by first | decide | omega) gS ?_
          refine aw_astore_n (ls1 := [(3, _), (0, _), (1, _), (2, _)]) dX6_turnBackToTest_18 (by decide) rfl ?_
          refine aw_aload_n dX6_turnBackToTest_19 rfl ?_
          refine aw_geti' (j := 2) dX6_turnBackToTest_20 fX6_93 rfl (by assumption) rfl hS.2.2.2.1 ?_
          refine aw_if_ne (tgt := 82) dX6_turnBackToTest_23 rfl (by omega) (fun c23 => ?_) (fun c23 => ?_)
          · exact absurd c23 (by omega)
          · refine aw_aload_n dX6_turnBackToTest_26 rfl ?_
            refine aw_geti' (j := 0) dX6_turnBackToTest_27 fX6_87 rfl (by assumption) rfl hS.2.1 ?_
            refine aw_if_ne (tgt := 82) dX6_turnBackToTest_30 rfl (by omega) (fun c30 => ?_) (fun c30 => ?_)
            · refine aw_iinc (k9 := 3) (ls1 := [(2, _), (3, _), (0, _), (1, _)]) dX6_turnBackToTest_82 rfl (by decide) rfl ?_
              refine aw_goto (tgt := 2) dX6_turnBackToTest_85 rfl ?_
              refine aw_sub [2, 3, 0] rfl ?_
              exact ih'
            · exact absurd c30 (by omega)
    · have ih' := ih (k + 1) (by omega) (by omega) (fun j p y hj2 hp hy => by
          by_cases q9 : j + 1 = k
          · rw [show j = k - 1 by omega, hs] at hp
            rw [q9, hx] at hy
            rw [← Option.some.inj hp, ← Option.some.inj hy]
            exact by unfold f4; rw [if_neg (fun z => q1 z.1)]
          · exact hj j p y (by omega) hp hy)
      refine aw_iload_n dX6_turnBackToTest_2 rfl ?_
      refine aw_aload_n dX6_turnBackToTest_3 rfl ?_
      refine aw_geti' (j := 1) dX6_turnBackToTest_4 fX6_62 rfl (by assumption) rfl h1 ?_
      refine aw_ic_ge (tgt := 88) dX6_turnBackToTest_7 rfl (by omega) (by omega) (fun c7 => ?_) (fun c7 => ?_)
      · exact absurd c7 (by omega)
      · refine aw_aload_n dX6_turnBackToTest_10 rfl ?_
        refine aw_getr' (j := 2) dX6_turnBackToTest_11 fX6_65 rfl (by assumption) rfl (by assumption) ?_
        refine aw_iload_n dX6_turnBackToTest_14 rfl ?_
        refine aw_iconst dX6_turnBackToTest_15 ?_
        refine aw_isub dX6_turnBackToTest_16 ?_
        refine aw_aald7' dX6_turnBackToTest_17 (by assumption) (by omega) (by first | decide | omega) gS ?_
        refine aw_astore_n (ls1 := [(3, _), (0, _), (1, _), (2, _)]) dX6_turnBackToTest_18 (by decide) rfl ?_
        refine aw_aload_n dX6_turnBackToTest_19 rfl ?_
        refine aw_geti' (j := 2) dX6_turnBackToTest_20 fX6_93 rfl (by assumption) rfl hS.2.2.2.1 ?_
        refine aw_if_ne (tgt := 82) dX6_turnBackToTest_23 rfl (by omega) (fun c23 => ?_) (fun c23 => ?_)
        · refine aw_iinc (k9 := 3) (ls1 := [(2, _), (3, _), (0, _), (1, _)]) dX6_turnBackToTest_82 rfl (by decide) rfl ?_
          refine aw_goto (tgt := 2) dX6_turnBackToTest_85 rfl ?_
          refine aw_sub [2, 3, 0] rfl ?_
          exact ih'
        · exact absurd c23 (by omega)
theorem c_r4 {γ : GG} {h : AH} {o : Nat} {a : Nat} {π : Nat → Nat} {t : TT} (hP : isP h a π t) (hw : okW t) : Call γ mX6_turnBackToTest 2 0 0 [vr (some o), vr (some a)] h (rP h a t (fp f4 t.2)) := by
  have K := l_r4 (γ := γ) (o := o) hP hw (t.2.length - 1) 1 (by omega) (by have := hw.1; omega) (fun j s x hj => absurd hj (by omega))
  refine Call.of (ls := [(0, vr (some o)), (1, vr (some a))]) vX6_turnBackToTest.1 (Nat.le_of_ble_eq_true rfl) rfl ?_
  refine aw_iconst dX6_turnBackToTest_0 ?_
  refine aw_istore_n (ls1 := [(2, _), (0, _), (1, _)]) dX6_turnBackToTest_1 (by decide) rfl ?_
  refine aw_sub [1, 2, 0] rfl ?_
  exact K
