/-! ===== the model: usesRule, rewritePath ===== -/
def SX (a : Nat) (lo hi : Int) : Nat → Int → Prop := fun b j => SW a lo hi b j ∨ b = a + 17
theorem SX.mono {a : Nat} {lo hi lo' hi' : Int} (h1 : lo' ≤ lo) (h2 : hi ≤ hi') : ∀ b j, SX a lo hi b j → SX a lo' hi' b j := fun b j h => h.elim (fun q => Or.inl (SW.mono h1 h2 b j q)) Or.inr
theorem SX_o {a : Nat} {lo hi : Int} : ∀ b j, SO a b j → SX a lo hi b j := fun b j h => Or.inl (Or.inl h)
theorem SX_w {a : Nat} {lo hi lo' hi' : Int} (h1 : lo' ≤ lo) (h2 : hi ≤ hi') : ∀ b j, SW a lo hi b j → SX a lo' hi' b j := fun b j h => Or.inl (SW.mono h1 h2 b j h)
theorem SX_q {a : Nat} {lo hi lo' hi' : Int} (h1 : lo' ≤ lo) (h2 : hi ≤ hi') : ∀ b j, SQ a lo hi b j → SX a lo' hi' b j := fun b j h => Or.inl (SW_q h1 h2 b j h)
theorem shM.u {h : AH} {a : Nat} (g : shM h a) : gr h a 24 = some (a + 17) ∧ kd h (a + 17) = some (.inr (1, 10)) := by
  obtain ⟨-, -, -, -, -, -, -, -, -, -, -, -, -, -, -, -, -, hu⟩ := g
  exact hu
def uM (h : AH) (a : Nat) (u : Nat → Int) : Prop := ∀ j : Nat, 1 ≤ j → j < 10 → gi h (a + 17) j = u j
theorem uM.eq {h h' : AH} {a : Nat} {u : Nat → Int} {S : Nat → Int → Prop} (hu : uM h a u) (e : eqG S h h') (hS : ∀ j, ¬ S (a + 17) j) : uM h' a u := fun j h1 h2 => (e.2.2.2.2 _ _ (hS j)).trans (hu j h1 h2)
theorem uM.ic {h : AH} {a n : Nat} {u : Nat → Int} (hu : uM h a u) (hn : 1 ≤ n ∧ n < 10) : uM (si h (a + 17) n (gi h (a + 17) n + 1)) a (inc u n) := fun j h1 h2 => by
  unfold inc
  by_cases q : j = n
  · subst q
    rw [gi_at rfl rfl, if_pos rfl, hu j h1 h2]
  · rw [gi_ne (Or.inr (by omega)), if_neg q]
    exact hu j h1 h2
theorem PT_so {h h' : AH} {a : Nat} {b : Int} {t : TT} (hT : PT h a b t) (e : eqG (SO a) h h') : PT h' a b t := by
  unfold PT
  rw [gi7o e]
  exact hT
theorem PT_17 {h : AH} {a : Nat} {b j v : Int} {t : TT} (hT : PT h a b t) : PT (si h (a + 17) j v) a b t := by
  unfold PT
  rw [show gi (si h (a + 17) j v) (a + 7) = gi h (a + 7) by funext k; exact gi_ne (Or.inl (by omega))]
  exact hT
def rR9 (h : AH) (a : Nat) (b : Int) (t : TT) (n : Nat) (u : Nat → Int) : Option (List TS) → AR → AH → Prop
  | none => rE (vi 0) (eqG (SO a) h)
  | some l => rE (vi 1) (fun h' => PT h' a b (t.1, l) ∧ eqG (SX a (b + 1) (b + 1634)) h h' ∧ uM h' a (inc u n))
theorem l_ur5 {γ : GG} {h : AH} {a : Nat} {b : Int} {t : TT} {n : Nat} {u : Nat → Int} (hM : shM h a) (hb : 1 ≤ b ∧ b + 1634 ≤ 6537) (hT : PT h a b t) (hu : uM h a u) (hn : 1 ≤ n ∧ n ≤ 5) (o : Nat → Option (List TS)) (K : ∀ i, i < t.2.length → Call γ mX12_usesAt 3 0 0 [vr (some a), vi (n : Int), vi b, vi (i : Int)] h (rA9 h a b t (o i))) (R : Option (List TS)) (hR0 : (∀ i, i < t.2.length → o i = none) → R = none) (hR1 : ∀ i l', i < t.2.length → o i = some l' → (∀ j, j < i → o j = none) → R = some l') : ∀ (m k : Nat), k + m = t.2.length → (∀ j, j < k → o j = none) → AW γ mX12_usesRule 6 0 0 2 [(3, vi (k : Int)), (0, vr (some a)), (1, vi (n : Int)), (2, vi b)] [] h (rR9 h a b t n u R) := by
  obtain ⟨hka, rq, kq⟩ := hM.q
  obtain ⟨ru, ku⟩ := hM.u
  have g1 := hT.1.2.1
  have l8 := hT.2.1
  intro m
  induction m with
  | zero =>
    intro k hkm hj
    rw [hR0 (fun i hi => hj i (by omega))]
    refine aw_iload_n dX12_usesRule_2 rfl ?_
    refine aw_aload_n dX12_usesRule_3 rfl ?_
    refine aw_getr' (j := 12) dX12_usesRule_4 fX12_28 rfl (by assumption) rfl (by assumption) ?_
    refine aw_iload_n dX12_usesRule_7 rfl ?_
    refine aw_iconst dX12_usesRule_8 ?_
    refine aw_iadd dX12_usesRule_9 ?_
    refine aw_iald' dX12_usesRule_10 (by assumption) (by omega) (by first | decide | omega) g1 ?_
    refine aw_ic_ge (tgt := 64) dX12_usesRule_11 rfl (by omega) (by omega) (fun c11 => ?_) (fun c11 => ?_)
    · refine aw_iconst dX12_usesRule_64 ?_
      exact aw_zreturn dX12_usesRule_65 rfl (by omega) (Or.inl rfl) ⟨rfl, eqG.rf⟩
    · exact absurd c11 (by omega)
  | succ m ih =>
    intro k hkm hj
    have K1 := K k (by omega)
    cases e : o k with
    | none =>
      rw [e] at K1
      have I := ih (k + 1) (by omega) (fun j hj2 => by
        by_cases z : j = k
        · rw [z]; exact e
        · exact hj j (by omega))
      refine aw_iload_n dX12_usesRule_2 rfl ?_
      refine aw_aload_n dX12_usesRule_3 rfl ?_
      refine aw_getr' (j := 12) dX12_usesRule_4 fX12_28 rfl (by assumption) rfl (by assumption) ?_
      refine aw_iload_n dX12_usesRule_7 rfl ?_
      refine aw_iconst dX12_usesRule_8 ?_
      refine aw_iadd dX12_usesRule_9 ?_
      refine aw_iald' dX12_usesRule_10 (by assumption) (by omega) (by first | decide | omega) g1 ?_
      refine aw_ic_ge (tgt := 64) dX12_usesRule_11 rfl (by omega) (by omega) (fun c11 => ?_) (fun c11 => ?_)
      · exact absurd c11 (by omega)
      · refine aw_iload_n dX12_usesRule_14 rfl ?_
        refine aw_bipush dX12_usesRule_15 rfl ?_
        refine aw_ic_ge (tgt := 33) dX12_usesRule_17 rfl (by omega) (by omega) (fun c17 => ?_) (fun c17 => ?_)
        · exact absurd c17 (by omega)
        · refine aw_aload_n dX12_usesRule_20 rfl ?_
          refine aw_iload_n dX12_usesRule_21 rfl ?_
          refine aw_iload_n dX12_usesRule_22 rfl ?_
          refine aw_iload_n dX12_usesRule_23 rfl ?_
          refine aw_invV_r dX12_usesRule_24 vX12_usesAt kX12_318 rfl (K1) ⟨_, (by assumption), _, _, rfl⟩ rfl rfl (by decide) (by decide) (by decide) (Nat.le_of_ble_eq_true rfl) ?_
          refine aw_if_eq (tgt := 58) dX12_usesRule_27 rfl (by omega) (fun c27 => ?_) (fun c27 => ?_)
          · refine aw_iinc (k9 := 0) (ls1 := [(3, _), (0, _), (1, _), (2, _)]) dX12_usesRule_58 rfl (by decide) rfl ?_
            refine aw_goto (tgt := 2) dX12_usesRule_61 rfl ?_
            refine aw_sub [0, 1, 2, 3] rfl ?_
            exact I
          · exact absurd c27 (by omega)
    | some l' =>
      rw [e] at K1
      rw [hR1 k l' (by omega) e hj]
      refine aw_iload_n dX12_usesRule_2 rfl ?_
      refine aw_aload_n dX12_usesRule_3 rfl ?_
      refine aw_getr' (j := 12) dX12_usesRule_4 fX12_28 rfl (by assumption) rfl (by assumption) ?_
      refine aw_iload_n dX12_usesRule_7 rfl ?_
      refine aw_iconst dX12_usesRule_8 ?_
      refine aw_iadd dX12_usesRule_9 ?_
      refine aw_iald' dX12_usesRule_10 (by assumption) (by omega) (by first | decide | omega) g1 ?_
      refine aw_ic_ge (tgt := 64) dX12_usesRule_11 rfl (by omega) (by omega) (fun c11 => ?_) (fun c11 => ?_)
      · exact absurd c11 (by omega)
      · refine aw_iload_n dX12_usesRule_14 rfl ?_
        refine aw_bipush dX12_usesRule_15 rfl ?_
        refine aw_ic_ge (tgt := 33) dX12_usesRule_17 rfl (by omega) (by omega) (fun c17 => ?_) (fun c17 => ?_)
        · exact absurd c17 (by omega)
        · refine aw_aload_n dX12_usesRule_20 rfl ?_
          refine aw_iload_n dX12_usesRule_21 rfl ?_
          refine aw_iload_n dX12_usesRule_22 rfl ?_
          refine aw_iload_n dX12_usesRule_23 rfl ?_
          refine aw_invV_e dX12_usesRule_24 vX12_usesAt kX12_318 rfl (K1) ⟨_, (by assumption), _, _, rfl⟩ rfl rfl (by decide) (by decide) (by decide) (Nat.le_of_ble_eq_true rfl) (fun h1 hP9 => ?_)
          obtain ⟨P1, E1⟩ := hP9
          have hka1 := (E1.1 a).trans hka
          have ru1 := (E1.2.1 a 24).trans ru
          have ku1 := (E1.1 (a + 17)).trans ku
          refine aw_if_eq (tgt := 58) dX12_usesRule_27 rfl (by omega) (fun c27 => ?_) (fun c27 => ?_)
          · exact absurd c27 (by omega)
          · refine aw_goto (tgt := 46) dX12_usesRule_30 rfl ?_
            refine aw_aload_n dX12_usesRule_46 rfl ?_
            refine aw_getr' (j := 24) dX12_usesRule_47 fX12_59 rfl (by assumption) rfl (by assumption) ?_
            refine aw_iload_n dX12_usesRule_50 rfl ?_
            refine aw_dup2 dX12_usesRule_51 rfl rfl ?_
            refine aw_iald' dX12_usesRule_52 (by assumption) (by omega) (by first | decide | omega) rfl ?_
            refine aw_iconst dX12_usesRule_53 ?_
            refine aw_iadd dX12_usesRule_54 ?_
            refine aw_iast dX12_usesRule_55 (by assumption) (by omega) (by first | decide | omega) ?_
            refine aw_iconst dX12_usesRule_56 ?_
            exact aw_zreturn dX12_usesRule_57 rfl (by omega) (Or.inl rfl) ⟨rfl, PT_17 P1, (E1.mono (SX_q (by omega) (by omega))).tr (eqG.si (Or.inr rfl)), (hu.eq E1 (fun j q => by unfold SQ at q; omega)).ic (by omega)⟩
theorem l_ur6 {γ : GG} {h : AH} {a : Nat} {b : Int} {t : TT} {n : Nat} {u : Nat → Int} (hM : shM h a) (hb : 1 ≤ b ∧ b + 1634 ≤ 6537) (hT : PT h a b t) (hw : wT t ≤ 97) (hu : uM h a u) (hn : 6 ≤ n ∧ n ≤ 8) : ∀ (m k : Nat) (H : AH), k + m = t.2.length → eqG (SO a) h H → (∀ j s, j < k → t.2[j]? = some s → (rS9 n s.2).map (fun ps => ((s.1, ps) : TS)) = none) → AW γ mX12_usesRule 6 0 0 2 [(3, vi (k : Int)), (0, vr (some a)), (1, vi (n : Int)), (2, vi b)] [] H (rR9 h a b t n u (fm (fun s => (rS9 n s.2).map (fun ps => (s.1, ps))) t.2)) := by
  have l8 := hT.2.1
  intro m
  induction m with
  | zero =>
    intro k H hkm hE hj
    obtain ⟨hka, rq, kq⟩ := (hE.sh hM).q
    have g1 := (PT_so hT hE).1.2.1
    rw [fm_none (fun x hx => by
      obtain ⟨j, hj2⟩ := List.getElem?_of_mem hx
      exact hj j x (by have := lt_of_get hj2; omega) hj2)]
    refine aw_iload_n dX12_usesRule_2 rfl ?_
    refine aw_aload_n dX12_usesRule_3 rfl ?_
    refine aw_getr' (j := 12) dX12_usesRule_4 fX12_28 rfl (by assumption) rfl (by assumption) ?_
    refine aw_iload_n dX12_usesRule_7 rfl ?_
    refine aw_iconst dX12_usesRule_8 ?_
    refine aw_iadd dX12_usesRule_9 ?_
    refine aw_iald' dX12_usesRule_10 (by assumption) (by omega) (by first | decide | omega) g1 ?_
    refine aw_ic_ge (tgt := 64) dX12_usesRule_11 rfl (by omega) (by omega) (fun c11 => ?_) (fun c11 => ?_)
    · refine aw_iconst dX12_usesRule_64 ?_
      exact aw_zreturn dX12_usesRule_65 rfl (by omega) (Or.inl rfl) ⟨rfl, hE⟩
    · exact absurd c11 (by omega)
  | succ m ih =>
    intro k H hkm hE hj
    have hM1 := hE.sh hM
    obtain ⟨hka, rq, kq⟩ := hM1.q
    obtain ⟨ru, ku⟩ := hM1.u
    have hT1 := PT_so hT hE
    have g1 := hT1.1.2.1
    obtain ⟨s, hs⟩ : ∃ s, t.2[k]? = some s := ⟨_, List.getElem?_eq_getElem (by omega)⟩
    obtain ⟨gs, os, -⟩ := PT_st hT1 hs
    have KA := m_stepAt (γ := γ) (h := H) (p := b) (k := (k : Int))
    have KW := m_usesWithin (γ := γ) hM1 os (by omega) gs (wP_500 hw (List.mem_of_getElem? hs)) (n := (n : Int)) (by omega)
    cases e : rS9 n s.2 with
    | none =>
      rw [e] at KW
      refine aw_iload_n dX12_usesRule_2 rfl ?_
      refine aw_aload_n dX12_usesRule_3 rfl ?_
      refine aw_getr' (j := 12) dX12_usesRule_4 fX12_28 rfl (by assumption) rfl (by assumption) ?_
      refine aw_iload_n dX12_usesRule_7 rfl ?_
      refine aw_iconst dX12_usesRule_8 ?_
      refine aw_iadd dX12_usesRule_9 ?_
      refine aw_iald' dX12_usesRule_10 (by assumption) (by omega) (by first | decide | omega) g1 ?_
      refine aw_ic_ge (tgt := 64) dX12_usesRule_11 rfl (by omega) (by omega) (fun c11 => ?_) (fun c11 => ?_)
      · exact absurd c11 (by omega)
      · refine aw_iload_n dX12_usesRule_14 rfl ?_
        refine aw_bipush dX12_usesRule_15 rfl ?_
        refine aw_ic_ge (tgt := 33) dX12_usesRule_17 rfl (by omega) (by omega) (fun c17 => ?_) (fun c17 => ?_)
        · refine aw_aload_n dX12_usesRule_33 rfl ?_
          refine aw_iload_n dX12_usesRule_34 rfl ?_
          refine aw_iload_n dX12_usesRule_35 rfl ?_
          refine aw_iload_n dX12_usesRule_36 rfl ?_
          refine aw_invS_r dX12_usesRule_37 sX12_stepAt kX12_165 rfl (KA) rfl rfl (by decide) (by decide) (by decide) (Nat.le_of_ble_eq_true rfl) ?_
          refine aw_invV_e dX12_usesRule_40 vX12_usesWithin kX12_321 rfl (KW) ⟨_, (by assumption), _, _, rfl⟩ rfl rfl (by decide) (by decide) (by decide) (Nat.le_of_ble_eq_true rfl) (fun h1 hP9 => ?_)
          have E1 := hP9
          refine aw_if_eq (tgt := 58) dX12_usesRule_43 rfl (by omega) (fun c43 => ?_) (fun c43 => ?_)
          · refine aw_iinc (k9 := 0) (ls1 := [(3, _), (0, _), (1, _), (2, _)]) dX12_usesRule_58 rfl (by decide) rfl ?_
            refine aw_goto (tgt := 2) dX12_usesRule_61 rfl ?_
            refine aw_sub [0, 1, 2, 3] rfl ?_
            exact ih (k + 1) h1 (by omega) (hE.tr E1) (fun j x hj2 hx => by
              by_cases z : j = k
              · subst z
                rw [hs] at hx
                cases hx
                rw [e]
                rfl
              · exact hj j x (by omega) hx)
          · exact absurd c43 (by omega)
        · exact absurd c17 (by omega)
    | some ps =>
      rw [e] at KW
      rw [fm_at hs (show (rS9 n s.2).map (fun ps => ((s.1, ps) : TS)) = some (s.1, ps) by rw [e]; rfl) (fun j z hj2 hz => hj j z hj2 hz)]
      refine aw_iload_n dX12_usesRule_2 rfl ?_
      refine aw_aload_n dX12_usesRule_3 rfl ?_
      refine aw_getr' (j := 12) dX12_usesRule_4 fX12_28 rfl (by assumption) rfl (by assumption) ?_
      refine aw_iload_n dX12_usesRule_7 rfl ?_
      refine aw_iconst dX12_usesRule_8 ?_
      refine aw_iadd dX12_usesRule_9 ?_
      refine aw_iald' dX12_usesRule_10 (by assumption) (by omega) (by first | decide | omega) g1 ?_
      refine aw_ic_ge (tgt := 64) dX12_usesRule_11 rfl (by omega) (by omega) (fun c11 => ?_) (fun c11 => ?_)
      · exact absurd c11 (by omega)
      · refine aw_iload_n dX12_usesRule_14 rfl ?_
        refine aw_bipush dX12_usesRule_15 rfl ?_
        refine aw_ic_ge (tgt := 33) dX12_usesRule_17 rfl (by omega) (by omega) (fun c17 => ?_) (fun c17 => ?_)
        · refine aw_aload_n dX12_usesRule_33 rfl ?_
          refine aw_iload_n dX12_usesRule_34 rfl ?_
          refine aw_iload_n dX12_usesRule_35 rfl ?_
          refine aw_iload_n dX12_usesRule_36 rfl ?_
          refine aw_invS_r dX12_usesRule_37 sX12_stepAt kX12_165 rfl (KA) rfl rfl (by decide) (by decide) (by decide) (Nat.le_of_ble_eq_true rfl) ?_
          refine aw_invV_e dX12_usesRule_40 vX12_usesWithin kX12_321 rfl (KW) ⟨_, (by assumption), _, _, rfl⟩ rfl rfl (by decide) (by decide) (by decide) (Nat.le_of_ble_eq_true rfl) (fun h1 hP9 => ?_)
          obtain ⟨gx, ox, E1⟩ := hP9
          have hka1 := (E1.1 a).trans hka
          have ru1 := (E1.2.1 a 24).trans ru
          have ku1 := (E1.1 (a + 17)).trans ku
          have E2 : eqG (SX a (b + 1) (b + 1634)) h h1 := (hE.mono SX_o).tr (E1.mono (SX_w (by omega) (by omega)))
          have P1 : PT h1 a b (t.1, t.2.set k (s.1, ps)) := by
            obtain ⟨⟨g0, g1, g2⟩, l8, ok⟩ := hT1
            refine ⟨⟨(E1.2.2.2.2 _ _ (by unfold SW SO SQ; omega)).trans g0, (E1.2.2.2.2 _ _ (by unfold SW SO SQ; omega)).trans (g1.trans (by simp)), fun j s2 hs2 => ?_⟩, by dsimp only; rw [List.length_set]; exact l8, mem_set9 ok ox⟩
            rcases set_get hs2 with ⟨q1, q2⟩ | ⟨q1, q2⟩
            · subst q1 q2; exact gx
            · have := lt_of_get q2
              exact (g2 j s2 q2).eq (ok s2 (List.mem_of_getElem? q2)) (fun z z1 z2 => E1.2.2.2.2 _ _ (by unfold SW SO SQ; omega))
          have U1 : uM h1 a u := (hu.eq hE (fun j q => by unfold SO at q; omega)).eq E1 (fun j q => by unfold SW SO SQ at q; omega)
          refine aw_if_eq (tgt := 58) dX12_usesRule_43 rfl (by omega) (fun c43 => ?_) (fun c43 => ?_)
          · exact absurd c43 (by omega)
          · refine aw_aload_n dX12_usesRule_46 rfl ?_
            refine aw_getr' (j := 24) dX12_usesRule_47 fX12_59 rfl (by assumption) rfl (by assumption) ?_
            refine aw_iload_n dX12_usesRule_50 rfl ?_
            refine aw_dup2 dX12_usesRule_51 rfl rfl ?_
            refine aw_iald' dX12_usesRule_52 (by assumption) (by omega) (by first | decide | omega) rfl ?_
            refine aw_iconst dX12_usesRule_53 ?_
            refine aw_iadd dX12_usesRule_54 ?_
            refine aw_iast dX12_usesRule_55 (by assumption) (by omega) (by first | decide | omega) ?_
            refine aw_iconst dX12_usesRule_56 ?_
            exact aw_zreturn dX12_usesRule_57 rfl (by omega) (Or.inl rfl) ⟨rfl, PT_17 P1, E2.tr (eqG.si (Or.inr rfl)), U1.ic (by omega)⟩
        · exact absurd c17 (by omega)
theorem m_usesRule {γ : GG} {h : AH} {a : Nat} {b : Int} {t : TT} {n : Nat} {u : Nat → Int} (hM : shM h a) (hb : 1 ≤ b ∧ b + 1634 ≤ 6537) (hT : PT h a b t) (hw : wT t ≤ 97) (hu : uM h a u) (hn : 1 ≤ n ∧ n ≤ 8) : Call γ mX12_usesRule 6 0 0 [vr (some a), vi (n : Int), vi b] h (rR9 h a b t n u (tR n t.2)) := by
  have fin : ∀ (Q : AR → AH → Prop), AW γ mX12_usesRule 6 0 0 2 [(3, vi ((0 : Nat) : Int)), (0, vr (some a)), (1, vi (n : Int)), (2, vi b)] [] h Q → Call γ mX12_usesRule 6 0 0 [vr (some a), vi (n : Int), vi b] h Q := by
    intro Q L
    refine Call.of (ls := [(0, vr (some a)), (1, vi (n : Int)), (2, vi b)]) vX12_usesRule.1 (Nat.le_of_ble_eq_true rfl) rfl ?_
    refine aw_iconst dX12_usesRule_0 ?_
    refine aw_istore_n (ls1 := [(3, _), (0, _), (1, _), (2, _)]) dX12_usesRule_1 (by decide) rfl ?_
    refine aw_sub [0, 1, 2, 3] rfl ?_
    exact L
  match n, hn with
  | 1, _ =>
    refine fin _ (l_ur5 (γ := γ) (n := 1) hM hb hT hu (by omega) (fun i => match t.2[i]? with | none => none | some s => if 1 < t.2.length ∧ f1 s = true then some (t.2.eraseIdx i) else none) (fun i hi => ?_) (r1 t.2) (fun h0 => ?_) (fun i l' hi h1 hj => ?_) t.2.length 0 (by omega) (fun j hj => absurd hj (by omega)))
    · obtain ⟨s, hs⟩ : ∃ s, t.2[i]? = some s := ⟨_, List.getElem?_eq_getElem hi⟩
      have K := m_uA1 (γ := γ) hM hb hT hs
      simp only [hs]
      exact K
    · unfold r1
      split
      · next hl =>
        refine fr_none (fun x hx => ?_)
        obtain ⟨j, hj2⟩ := List.getElem?_of_mem hx
        have := h0 j (lt_of_get hj2)
        simp only [hj2] at this
        cases e : f1 x with
        | false => rfl
        | true => rw [if_pos ⟨hl, e⟩] at this; cases this
      · rfl
    · obtain ⟨s, hs⟩ : ∃ s, t.2[i]? = some s := ⟨_, List.getElem?_eq_getElem hi⟩
      simp only [hs] at h1
      by_cases q : 1 < t.2.length ∧ f1 s = true
      · rw [if_pos q] at h1
        cases h1
        unfold r1
        rw [if_pos q.1]
        refine fr_at hs q.2 (fun j z hj2 hz => ?_)
        have := hj j hj2
        simp only [hz] at this
        cases e : f1 z with
        | false => rfl
        | true => rw [if_pos ⟨q.1, e⟩] at this; cases this
      · rw [if_neg q] at h1; cases h1
  | 2, _ =>
    refine fin _ (l_ur5 (γ := γ) (n := 2) hM hb hT hu (by omega) (fun i => match t.2[i]? with | none => none | some s => match t.2[i + 1]? with | none => none | some v => (f2 s v).map (fun x => (t.2.set i x).eraseIdx (i + 1))) (fun i hi => ?_) (fp f2 t.2) (fun h0 => ?_) (fun i l' hi h1 hj => ?_) t.2.length 0 (by omega) (fun j hj => absurd hj (by omega)))
    · obtain ⟨s, hs⟩ : ∃ s, t.2[i]? = some s := ⟨_, List.getElem?_eq_getElem hi⟩
      have K := m_uA2 (γ := γ) hM hb hT hs
      simp only [hs]
      exact K
    · refine fp_none (fun j x y hx hy => ?_)
      have := h0 j (lt_of_get hx)
      simp only [hx, hy] at this
      exact Option.map_eq_none_iff.mp this
    · obtain ⟨s, hs⟩ : ∃ s, t.2[i]? = some s := ⟨_, List.getElem?_eq_getElem hi⟩
      simp only [hs] at h1
      cases hv : t.2[i + 1]? with
      | none => rw [hv] at h1; cases h1
      | some v =>
        rw [hv] at h1
        obtain ⟨x, hx, rfl⟩ := Option.map_eq_some_iff.mp h1
        refine fp_at1 hs hv hx (fun j p q hj2 hp hq => ?_)
        have := hj j hj2
        simp only [hp, hq] at this
        exact Option.map_eq_none_iff.mp this
  | 3, _ =>
    refine fin _ (l_ur5 (γ := γ) (n := 3) hM hb hT hu (by omega) (fun i => match t.2[i]? with | none => none | some s => match t.2[i + 1]? with | none => none | some v => (f3 s v).map (fun x => (t.2.set i x).eraseIdx (i + 1))) (fun i hi => ?_) (fp f3 t.2) (fun h0 => ?_) (fun i l' hi h1 hj => ?_) t.2.length 0 (by omega) (fun j hj => absurd hj (by omega)))
    · obtain ⟨s, hs⟩ : ∃ s, t.2[i]? = some s := ⟨_, List.getElem?_eq_getElem hi⟩
      have K := m_uA3 (γ := γ) hM hb hT hs
      simp only [hs]
      exact K
    · refine fp_none (fun j x y hx hy => ?_)
      have := h0 j (lt_of_get hx)
      simp only [hx, hy] at this
      exact Option.map_eq_none_iff.mp this
    · obtain ⟨s, hs⟩ : ∃ s, t.2[i]? = some s := ⟨_, List.getElem?_eq_getElem hi⟩
      simp only [hs] at h1
      cases hv : t.2[i + 1]? with
      | none => rw [hv] at h1; cases h1
      | some v =>
        rw [hv] at h1
        obtain ⟨x, hx, rfl⟩ := Option.map_eq_some_iff.mp h1
        refine fp_at1 hs hv hx (fun j p q hj2 hp hq => ?_)
        have := hj j hj2
        simp only [hp, hq] at this
        exact Option.map_eq_none_iff.mp this
  | 4, _ =>
    refine fin _ (l_ur5 (γ := γ) (n := 4) hM hb hT hu (by omega) (fun i => match t.2[i]? with | none => none | some s => match t.2[i + 1]? with | none => none | some v => (f4 s v).map (fun x => (t.2.set i x).eraseIdx (i + 1))) (fun i hi => ?_) (fp f4 t.2) (fun h0 => ?_) (fun i l' hi h1 hj => ?_) t.2.length 0 (by omega) (fun j hj => absurd hj (by omega)))
    · obtain ⟨s, hs⟩ : ∃ s, t.2[i]? = some s := ⟨_, List.getElem?_eq_getElem hi⟩
      have K := m_uA4 (γ := γ) hM hb hT hs
      simp only [hs]
      exact K
    · refine fp_none (fun j x y hx hy => ?_)
      have := h0 j (lt_of_get hx)
      simp only [hx, hy] at this
      exact Option.map_eq_none_iff.mp this
    · obtain ⟨s, hs⟩ : ∃ s, t.2[i]? = some s := ⟨_, List.getElem?_eq_getElem hi⟩
      simp only [hs] at h1
      cases hv : t.2[i + 1]? with
      | none => rw [hv] at h1; cases h1
      | some v =>
        rw [hv] at h1
        obtain ⟨x, hx, rfl⟩ := Option.map_eq_some_iff.mp h1
        refine fp_at1 hs hv hx (fun j p q hj2 hp hq => ?_)
        have := hj j hj2
        simp only [hp, hq] at this
        exact Option.map_eq_none_iff.mp this
  | 5, _ =>
    refine fin _ (l_ur5 (γ := γ) (n := 5) hM hb hT hu (by omega) (fun i => match t.2[i]? with | none => none | some s => match t.2[i + 1]? with | none => none | some v => (f5 s v).map (fun x => (t.2.set i x).eraseIdx (i + 1))) (fun i hi => ?_) (fp f5 t.2) (fun h0 => ?_) (fun i l' hi h1 hj => ?_) t.2.length 0 (by omega) (fun j hj => absurd hj (by omega)))
    · obtain ⟨s, hs⟩ : ∃ s, t.2[i]? = some s := ⟨_, List.getElem?_eq_getElem hi⟩
      have K := m_uA5 (γ := γ) hM hb hT hs
      simp only [hs]
      exact K
    · refine fp_none (fun j x y hx hy => ?_)
      have := h0 j (lt_of_get hx)
      simp only [hx, hy] at this
      exact Option.map_eq_none_iff.mp this
    · obtain ⟨s, hs⟩ : ∃ s, t.2[i]? = some s := ⟨_, List.getElem?_eq_getElem hi⟩
      simp only [hs] at h1
      cases hv : t.2[i + 1]? with
      | none => rw [hv] at h1; cases h1
      | some v =>
        rw [hv] at h1
        obtain ⟨x, hx, rfl⟩ := Option.map_eq_some_iff.mp h1
        refine fp_at1 hs hv hx (fun j p q hj2 hp hq => ?_)
        have := hj j hj2
        simp only [hp, hq] at this
        exact Option.map_eq_none_iff.mp this
  | 6, _ =>
    exact fin _ (l_ur6 (γ := γ) (n := 6) hM hb hT hw hu (by omega) t.2.length 0 h (by omega) eqG.rf (fun j s hj => absurd hj (by omega)))
  | 7, _ =>
    exact fin _ (l_ur6 (γ := γ) (n := 7) hM hb hT hw hu (by omega) t.2.length 0 h (by omega) eqG.rf (fun j s hj => absurd hj (by omega)))
  | 8, _ =>
    exact fin _ (l_ur6 (γ := γ) (n := 8) hM hb hT hw hu (by omega) t.2.length 0 h (by omega) eqG.rf (fun j s hj => absurd hj (by omega)))
  | n + 9, hn => exact absurd hn (by omega)
theorem tR_len {n : Nat} {l l' : List TS} (h : tR n l = some l') : 1 ≤ l'.length ∧ l'.length ≤ l.length := by
  have fmL : ∀ (g : TS → Option TS), fm g l = some l' → 1 ≤ l'.length ∧ l'.length ≤ l.length := fun g hg => by
    obtain ⟨i, s, x, e1, e2, rfl⟩ := fm_inv hg
    have := lt_of_get e1
    rw [List.length_set]
    omega
  have fpL : ∀ (g : TS → TS → Option TS), fp g l = some l' → 1 ≤ l'.length ∧ l'.length ≤ l.length := fun g hg => by
    obtain ⟨i, s, v, x, e1, e2, e3, rfl⟩ := fp_inv hg
    have := lt_of_get e2
    rw [List.length_eraseIdx_of_lt (by rw [List.length_set]; omega), List.length_set]
    omega
  unfold tR at h
  split at h
  · unfold r1 at h
    split at h
    · obtain ⟨i, s, e1, e2, rfl⟩ := fr_inv h
      have := lt_of_get e1
      rw [List.length_eraseIdx_of_lt this]
      omega
    · cases h
  · exact fpL _ h
  · exact fpL _ h
  · exact fpL _ h
  · exact fpL _ h
  · exact fmL _ h
  · exact fmL _ h
  · exact fmL _ h
def rP9 (h : AH) (a : Nat) (b : Int) (ab : Bool) (f : Nat) (l : List TS) (u : Nat → Int) : AR → AH → Prop := rF (fun h' => PT h' a b (ab, (rwF f l).2) ∧ 1 ≤ (rwF f l).2.length ∧ eqG (SX a (b + 1) (b + 1634)) h h' ∧ uM h' a (addU (rwF f l).1 u))
theorem l_rw {γ : GG} {a : Nat} {b : Int} {ab : Bool} (hb : 1 ≤ b ∧ b + 1634 ≤ 6537) : ∀ (f : Nat) (h : AH) (l : List TS) (u : Nat → Int), muL l < f → shM h a → PT h a b (ab, l) → 1 ≤ l.length → wT (ab, l) ≤ 97 → uM h a u → ∀ (m n : Nat) (H : AH), n + m = 9 → 1 ≤ n → eqG (SO a) h H → (∀ j, 1 ≤ j → j < n → tR j l = none) → AW γ mX12_rewritePath 7 0 0 2 [(2, vi (n : Int)), (0, vr (some a)), (1, vi b)] [] H (rP9 h a b ab f l u) := by
  intro f
  induction f with
  | zero => intro h l u hmu; omega
  | succ f ihf =>
    intro h l u hmu hM hT hl hw hu m
    induction m with
    | zero =>
      intro n H hnm hn hE hj
      have e : uR l = none := uR_none (fun j h1 h2 => hj j h1 (by omega))
      have er : rwF (f + 1) l = ([], l) := by simp only [rwF, e]
      unfold rP9
      rw [er]
      refine aw_iload_n dX12_rewritePath_2 rfl ?_
      refine aw_bipush dX12_rewritePath_3 rfl ?_
      refine aw_ic_gt (tgt := 28) dX12_rewritePath_5 rfl (by omega) (by omega) (fun c5 => ?_) (fun c5 => ?_)
      · exact aw_return dX12_rewritePath_28 rfl (Or.inl rfl) ⟨rfl, PT_so hT hE, hl, hE.mono SX_o, hu.eq hE (fun j q => by unfold SO at q; omega)⟩
      · exact absurd c5 (by omega)
    | succ m ihm =>
      intro n H hnm hn hE hj
      have hM1 := hE.sh hM
      obtain ⟨hka, rq, kq⟩ := hM1.q
      have K := m_usesRule (γ := γ) hM1 hb (PT_so hT hE) hw (hu.eq hE (fun j q => by unfold SO at q; omega)) (n := n) (by omega)
      dsimp only at K
      cases e : tR n l with
      | none =>
        rw [e] at K
        refine aw_iload_n dX12_rewritePath_2 rfl ?_
        refine aw_bipush dX12_rewritePath_3 rfl ?_
        refine aw_ic_gt (tgt := 28) dX12_rewritePath_5 rfl (by omega) (by omega) (fun c5 => ?_) (fun c5 => ?_)
        · exact absurd c5 (by omega)
        · refine aw_aload_n dX12_rewritePath_8 rfl ?_
          refine aw_iload_n dX12_rewritePath_9 rfl ?_
          refine aw_iload_n dX12_rewritePath_10 rfl ?_
          refine aw_invV_e dX12_rewritePath_11 vX12_usesRule kX12_324 rfl (K) ⟨_, (by assumption), _, _, rfl⟩ rfl rfl (by decide) (by decide) (by decide) (Nat.le_of_ble_eq_true rfl) (fun h1 hP9 => ?_)
          have E1 := hP9
          refine aw_if_eq (tgt := 21) dX12_rewritePath_14 rfl (by omega) (fun c14 => ?_) (fun c14 => ?_)
          · refine aw_iload_n dX12_rewritePath_21 rfl ?_
            refine aw_iconst dX12_rewritePath_22 ?_
            refine aw_iadd dX12_rewritePath_23 ?_
            refine aw_istore_n (ls1 := [(2, _), (0, _), (1, _)]) dX12_rewritePath_24 (by decide) rfl ?_
            refine aw_goto (tgt := 2) dX12_rewritePath_25 rfl ?_
            refine aw_sub [0, 1, 2] rfl ?_
            exact ihm (n + 1) h1 (by omega) (by omega) (hE.tr E1) (fun j j1 j2 => by
              by_cases z : j = n
              · rw [z]; exact e
              · exact hj j j1 (by omega))
          · exact absurd c14 (by omega)
      | some l' =>
        rw [e] at K
        have eu : uR l = some ((n : Int), l') := uR_tR (by omega) hj e
        have er : rwF (f + 1) l = ((n : Int) :: (rwF f l').1, (rwF f l').2) := by simp only [rwF, eu]
        have hmu2 := (mu_uR eu).1
        dsimp only at hmu2
        have lw := tR_len e
        have ww := ws_tR e
        refine aw_iload_n dX12_rewritePath_2 rfl ?_
        refine aw_bipush dX12_rewritePath_3 rfl ?_
        refine aw_ic_gt (tgt := 28) dX12_rewritePath_5 rfl (by omega) (by omega) (fun c5 => ?_) (fun c5 => ?_)
        · exact absurd c5 (by omega)
        · refine aw_aload_n dX12_rewritePath_8 rfl ?_
          refine aw_iload_n dX12_rewritePath_9 rfl ?_
          refine aw_iload_n dX12_rewritePath_10 rfl ?_
          refine aw_invV_e dX12_rewritePath_11 vX12_usesRule kX12_324 rfl (K) ⟨_, (by assumption), _, _, rfl⟩ rfl rfl (by decide) (by decide) (by decide) (Nat.le_of_ble_eq_true rfl) (fun h1 hP9 => ?_)
          obtain ⟨P1, E1, U1⟩ := hP9
          refine aw_if_eq (tgt := 21) dX12_rewritePath_14 rfl (by omega) (fun c14 => ?_) (fun c14 => ?_)
          · exact absurd c14 (by omega)
          · refine aw_iconst dX12_rewritePath_17 ?_
            refine aw_goto (tgt := 24) dX12_rewritePath_18 rfl ?_
            refine aw_istore_n (ls1 := [(2, _), (0, _), (1, _)]) dX12_rewritePath_24 (by decide) rfl ?_
            refine aw_goto (tgt := 2) dX12_rewritePath_25 rfl ?_
            refine aw_sub [0, 1, 2] rfl ?_
            refine aw_mono (fun r h' hq => ?_) (ihf h1 l' (inc u n) (by omega) (E1.sh hM1) P1 lw.1 (by unfold wT at hw ⊢; dsimp only at hw ⊢; omega) U1 8 1 h1 (by omega) (by omega) eqG.rf (fun j j1 j2 => absurd j2 (by omega)))
            obtain ⟨q1, q2, q3, q4, q5⟩ := hq
            unfold rP9
            rw [er]
            exact ⟨q1, q2, q3, ((hE.mono SX_o).tr E1).tr q4, q5⟩
theorem m_rewritePath {γ : GG} {h : AH} {a : Nat} {b : Int} {t : TT} {u : Nat → Int} (hM : shM h a) (hb : 1 ≤ b ∧ b + 1634 ≤ 6537) (hT : PT h a b t) (hl : 1 ≤ t.2.length) (hw : wT t ≤ 97) (hu : uM h a u) : Call γ mX12_rewritePath 7 0 0 [vr (some a), vi b] h (rF (fun h' => PT h' a b (rwT t) ∧ 1 ≤ (rwT t).2.length ∧ eqG (SX a (b + 1) (b + 1634)) h h' ∧ uM h' a (addU (rwC t) u))) := by
  have L := l_rw (γ := γ) (a := a) (b := b) (ab := t.1) hb 1000 h t.2 u (by have := mu_le (t := t) ⟨hl, hT.2.1, hT.2.2⟩; omega) hM hT hl hw hu 8 1 h (by omega) (by omega) eqG.rf (fun j j1 j2 => absurd j2 (by omega))
  refine Call.of (ls := [(0, vr (some a)), (1, vi b)]) vX12_rewritePath.1 (Nat.le_of_ble_eq_true rfl) rfl ?_
  refine aw_iconst dX12_rewritePath_0 ?_
  refine aw_istore_n (ls1 := [(2, _), (0, _), (1, _)]) dX12_rewritePath_1 (by decide) rfl ?_
  refine aw_sub [0, 1, 2] rfl ?_
  exact L
