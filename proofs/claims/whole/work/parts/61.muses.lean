/-! ===== the model: usesWithin, usesAt ===== -/
def SW (a : Nat) (lo hi : Int) : Nat → Int → Prop := fun b j => SO a b j ∨ SQ a lo hi b j
theorem SW_o {a : Nat} {lo hi : Int} : ∀ b j, SO a b j → SW a lo hi b j := fun b j h => Or.inl h
theorem SW_q {a : Nat} {lo hi lo' hi' : Int} (h1 : lo' ≤ lo) (h2 : hi ≤ hi') : ∀ b j, SQ a lo hi b j → SW a lo' hi' b j := fun b j h => Or.inr (SQ.mono h1 h2 b j h)
theorem SW.mono {a : Nat} {lo hi lo' hi' : Int} (h1 : lo' ≤ lo) (h2 : hi ≤ hi') : ∀ b j, SW a lo hi b j → SW a lo' hi' b j := fun b j h => h.elim Or.inl (fun q => Or.inr (SQ.mono h1 h2 b j q))
theorem gi7o {h h' : AH} {a : Nat} (e : eqG (SO a) h h') : gi h' (a + 7) = gi h (a + 7) := by
  funext j
  exact e.2.2.2.2 _ _ (by unfold SO; omega)
def rW (h : AH) (a : Nat) (b : Int) (s : TS) : Option (List TP) → AR → AH → Prop
  | none => rE (vi 0) (eqG (SO a) h)
  | some ps => rE (vi 1) (fun h' => gS (gi h' (a + 7)) b (s.1, ps) ∧ okS (s.1, ps) ∧ eqG (SW a b (b + 204)) h h')
theorem l_w6 {γ : GG} {h : AH} {a : Nat} {b : Int} {s : TS} (hM : shM h a) (ho : okS s) (hb : 1 ≤ b ∧ b + 204 ≤ 6537) (hg : gS (gi h (a + 7)) b s) : ∀ (r : List TP) (k : Nat), s.2.drop k = r → k ≤ s.2.length → (∀ j x, j < k → s.2[j]? = some x → r6P x = none) → AW γ mX12_usesWithin 5 0 0 2 [(3, vi (k : Int)), (0, vr (some a)), (1, vi 6), (2, vi b)] [] h (rW h a b s (r6S s.2)) := by
  obtain ⟨hka, rq, kq⟩ := hM.q
  have g0 := hg.2.2.1
  have l3 := ho.2.1
  intro r
  induction r with
  | nil =>
    intro k hd hkl hj
    have hk := List.drop_eq_nil_iff.mp hd
    rw [show r6S s.2 = none from fm_none (fun x hx => by
      obtain ⟨j, hj2⟩ := List.getElem?_of_mem hx
      exact hj j x (by have := lt_of_get hj2; omega) hj2)]
    refine aw_iload_n dX12_usesWithin_2 rfl ?_
    refine aw_aload_n dX12_usesWithin_3 rfl ?_
    refine aw_getr' (j := 12) dX12_usesWithin_4 fX12_28 rfl (by assumption) rfl (by assumption) ?_
    refine aw_iload_n dX12_usesWithin_7 rfl ?_
    refine aw_iconst dX12_usesWithin_8 ?_
    refine aw_iadd dX12_usesWithin_9 ?_
    refine aw_iald' dX12_usesWithin_10 (by assumption) (by omega) (by first | decide | omega) g0 ?_
    refine aw_ic_ge (tgt := 110) dX12_usesWithin_11 rfl (by omega) (by omega) (fun c11 => ?_) (fun c11 => ?_)
    · refine aw_iconst dX12_usesWithin_110 ?_
      exact aw_zreturn dX12_usesWithin_111 rfl (by omega) (Or.inl rfl) ⟨rfl, eqG.rf⟩
    · exact absurd c11 (by omega)
  | cons x r ih =>
    intro k hd hkl hj
    obtain ⟨hx, hdr, hlt⟩ := drop_hd hd
    have ox := ho.2.2 x (List.mem_of_getElem? hx)
    have KC := m_predicateAt (γ := γ) (h := h) (p := b) (k := (k : Int))
    have KU := m_usesCondition (γ := γ) hM ox (by omega) (hg.2.2.2 k x hx)
    cases e : r6P x with
    | none =>
      have I := ih (k + 1) hdr (by omega) (fun j y hj2 hy => by
        by_cases z : j = k
        · subst z
          rw [hx] at hy
          cases hy
          exact e
        · exact hj j y (by omega) hy)
      rw [e] at KU
      refine aw_iload_n dX12_usesWithin_2 rfl ?_
      refine aw_aload_n dX12_usesWithin_3 rfl ?_
      refine aw_getr' (j := 12) dX12_usesWithin_4 fX12_28 rfl (by assumption) rfl (by assumption) ?_
      refine aw_iload_n dX12_usesWithin_7 rfl ?_
      refine aw_iconst dX12_usesWithin_8 ?_
      refine aw_iadd dX12_usesWithin_9 ?_
      refine aw_iald' dX12_usesWithin_10 (by assumption) (by omega) (by first | decide | omega) g0 ?_
      refine aw_ic_ge (tgt := 110) dX12_usesWithin_11 rfl (by omega) (by omega) (fun c11 => ?_) (fun c11 => ?_)
      · exact absurd c11 (by omega)
      · refine aw_iload_n dX12_usesWithin_14 rfl ?_
        refine aw_iload_n dX12_usesWithin_15 rfl ?_
        refine aw_invS_r dX12_usesWithin_16 sX12_predicateAt kX12_168 rfl (KC) rfl rfl (by decide) (by decide) (by decide) (Nat.le_of_ble_eq_true rfl) ?_
        refine aw_istore (ls1 := [(4, _), (3, _), (0, _), (1, _), (2, _)]) dX12_usesWithin_19 (by decide) rfl ?_
        refine aw_iload_n dX12_usesWithin_21 rfl ?_
        refine aw_bipush dX12_usesWithin_22 rfl ?_
        refine aw_ic_ne (tgt := 38) dX12_usesWithin_24 rfl (by omega) (by omega) (fun c24 => ?_) (fun c24 => ?_)
        · exact absurd c24 (by omega)
        · refine aw_aload_n dX12_usesWithin_27 rfl ?_
          refine aw_iload dX12_usesWithin_28 rfl ?_
          refine aw_invV_r dX12_usesWithin_30 vX12_usesCondition kX12_306 rfl (KU) ⟨_, (by assumption), _, _, rfl⟩ rfl rfl (by decide) (by decide) (by decide) (Nat.le_of_ble_eq_true rfl) ?_
          refine aw_if_eq (tgt := 38) dX12_usesWithin_33 rfl (by omega) (fun c33 => ?_) (fun c33 => ?_)
          · refine aw_iload_n dX12_usesWithin_38 rfl ?_
            refine aw_bipush dX12_usesWithin_39 rfl ?_
            refine aw_ic_ne (tgt := 61) dX12_usesWithin_41 rfl (by omega) (by omega) (fun c41 => ?_) (fun c41 => ?_)
            · refine aw_iload_n dX12_usesWithin_61 rfl ?_
              refine aw_bipush dX12_usesWithin_62 rfl ?_
              refine aw_ic_ne (tgt := 104) dX12_usesWithin_64 rfl (by omega) (by omega) (fun c64 => ?_) (fun c64 => ?_)
              · refine aw_iinc (k9 := 1) (ls1 := [(3, _), (4, _), (0, _), (1, _), (2, _)]) dX12_usesWithin_104 rfl (by decide) rfl ?_
                refine aw_goto (tgt := 2) dX12_usesWithin_107 rfl ?_
                refine aw_sub [0, 2, 3, 4] rfl ?_
                exact I
              · exact absurd c64 (by omega)
            · exact absurd c41 (by omega)
          · exact absurd c33 (by omega)
    | some y =>
      rw [show r6S s.2 = some (s.2.set k y) from fm_at hx e (fun j z hj2 hz => hj j z hj2 hz)]
      rw [e] at KU
      refine aw_iload_n dX12_usesWithin_2 rfl ?_
      refine aw_aload_n dX12_usesWithin_3 rfl ?_
      refine aw_getr' (j := 12) dX12_usesWithin_4 fX12_28 rfl (by assumption) rfl (by assumption) ?_
      refine aw_iload_n dX12_usesWithin_7 rfl ?_
      refine aw_iconst dX12_usesWithin_8 ?_
      refine aw_iadd dX12_usesWithin_9 ?_
      refine aw_iald' dX12_usesWithin_10 (by assumption) (by omega) (by first | decide | omega) g0 ?_
      refine aw_ic_ge (tgt := 110) dX12_usesWithin_11 rfl (by omega) (by omega) (fun c11 => ?_) (fun c11 => ?_)
      · exact absurd c11 (by omega)
      · refine aw_iload_n dX12_usesWithin_14 rfl ?_
        refine aw_iload_n dX12_usesWithin_15 rfl ?_
        refine aw_invS_r dX12_usesWithin_16 sX12_predicateAt kX12_168 rfl (KC) rfl rfl (by decide) (by decide) (by decide) (Nat.le_of_ble_eq_true rfl) ?_
        refine aw_istore (ls1 := [(4, _), (3, _), (0, _), (1, _), (2, _)]) dX12_usesWithin_19 (by decide) rfl ?_
        refine aw_iload_n dX12_usesWithin_21 rfl ?_
        refine aw_bipush dX12_usesWithin_22 rfl ?_
        refine aw_ic_ne (tgt := 38) dX12_usesWithin_24 rfl (by omega) (by omega) (fun c24 => ?_) (fun c24 => ?_)
        · exact absurd c24 (by omega)
        · refine aw_aload_n dX12_usesWithin_27 rfl ?_
          refine aw_iload dX12_usesWithin_28 rfl ?_
          refine aw_invV_e dX12_usesWithin_30 vX12_usesCondition kX12_306 rfl (KU) ⟨_, (by assumption), _, _, rfl⟩ rfl rfl (by decide) (by decide) (by decide) (Nat.le_of_ble_eq_true rfl) (fun h1 hP9 => ?_)
          obtain ⟨q1, q2, q3⟩ := hP9
          obtain ⟨z1, z2⟩ := gS_set hg ho hlt q1 q2 q3
          refine aw_if_eq (tgt := 38) dX12_usesWithin_33 rfl (by omega) (fun c33 => ?_) (fun c33 => ?_)
          · exact absurd c33 (by omega)
          · refine aw_iconst dX12_usesWithin_36 ?_
            exact aw_zreturn dX12_usesWithin_37 rfl (by omega) (Or.inl rfl) ⟨rfl, z1, z2, q3.mono (SW_q (by omega) (by omega))⟩
theorem l_w7 {γ : GG} {h : AH} {a : Nat} {b : Int} {s : TS} (hM : shM h a) (ho : okS s) (hb : 1 ≤ b ∧ b + 204 ≤ 6537) (hg : gS (gi h (a + 7)) b s) : ∀ (r : List TP) (k : Nat), s.2.drop k = r → k ≤ s.2.length → (∀ j x, j < k → s.2[j]? = some x → decide ([sureC] ∈ x) = false) → AW γ mX12_usesWithin 5 0 0 2 [(3, vi (k : Int)), (0, vr (some a)), (1, vi 7), (2, vi b)] [] h (rW h a b s (r7S s.2)) := by
  obtain ⟨hka, rq, kq⟩ := hM.q
  have g0 := hg.2.2.1
  have l3 := ho.2.1
  intro r
  induction r with
  | nil =>
    intro k hd hkl hj
    have hk := List.drop_eq_nil_iff.mp hd
    rw [show r7S s.2 = none from fr_none (fun x hx => by
      obtain ⟨j, hj2⟩ := List.getElem?_of_mem hx
      exact hj j x (by have := lt_of_get hj2; omega) hj2)]
    refine aw_iload_n dX12_usesWithin_2 rfl ?_
    refine aw_aload_n dX12_usesWithin_3 rfl ?_
    refine aw_getr' (j := 12) dX12_usesWithin_4 fX12_28 rfl (by assumption) rfl (by assumption) ?_
    refine aw_iload_n dX12_usesWithin_7 rfl ?_
    refine aw_iconst dX12_usesWithin_8 ?_
    refine aw_iadd dX12_usesWithin_9 ?_
    refine aw_iald' dX12_usesWithin_10 (by assumption) (by omega) (by first | decide | omega) g0 ?_
    refine aw_ic_ge (tgt := 110) dX12_usesWithin_11 rfl (by omega) (by omega) (fun c11 => ?_) (fun c11 => ?_)
    · refine aw_iconst dX12_usesWithin_110 ?_
      exact aw_zreturn dX12_usesWithin_111 rfl (by omega) (Or.inl rfl) ⟨rfl, eqG.rf⟩
    · exact absurd c11 (by omega)
  | cons x r ih =>
    intro k hd hkl hj
    obtain ⟨hx, hdr, hlt⟩ := drop_hd hd
    have ox := ho.2.2 x (List.mem_of_getElem? hx)
    have KC := m_predicateAt (γ := γ) (h := h) (p := b) (k := (k : Int))
    have KU := m_isSurePredicate (γ := γ) hM ox (by omega) (hg.2.2.2 k x hx)
    cases e : decide ([sureC] ∈ x) with
    | false =>
      have I := ih (k + 1) hdr (by omega) (fun j y hj2 hy => by
        by_cases z : j = k
        · subst z
          rw [hx] at hy
          cases hy
          exact e
        · exact hj j y (by omega) hy)
      rw [e] at KU
      refine aw_iload_n dX12_usesWithin_2 rfl ?_
      refine aw_aload_n dX12_usesWithin_3 rfl ?_
      refine aw_getr' (j := 12) dX12_usesWithin_4 fX12_28 rfl (by assumption) rfl (by assumption) ?_
      refine aw_iload_n dX12_usesWithin_7 rfl ?_
      refine aw_iconst dX12_usesWithin_8 ?_
      refine aw_iadd dX12_usesWithin_9 ?_
      refine aw_iald' dX12_usesWithin_10 (by assumption) (by omega) (by first | decide | omega) g0 ?_
      refine aw_ic_ge (tgt := 110) dX12_usesWithin_11 rfl (by omega) (by omega) (fun c11 => ?_) (fun c11 => ?_)
      · exact absurd c11 (by omega)
      · refine aw_iload_n dX12_usesWithin_14 rfl ?_
        refine aw_iload_n dX12_usesWithin_15 rfl ?_
        refine aw_invS_r dX12_usesWithin_16 sX12_predicateAt kX12_168 rfl (KC) rfl rfl (by decide) (by decide) (by decide) (Nat.le_of_ble_eq_true rfl) ?_
        refine aw_istore (ls1 := [(4, _), (3, _), (0, _), (1, _), (2, _)]) dX12_usesWithin_19 (by decide) rfl ?_
        refine aw_iload_n dX12_usesWithin_21 rfl ?_
        refine aw_bipush dX12_usesWithin_22 rfl ?_
        refine aw_ic_ne (tgt := 38) dX12_usesWithin_24 rfl (by omega) (by omega) (fun c24 => ?_) (fun c24 => ?_)
        · refine aw_iload_n dX12_usesWithin_38 rfl ?_
          refine aw_bipush dX12_usesWithin_39 rfl ?_
          refine aw_ic_ne (tgt := 61) dX12_usesWithin_41 rfl (by omega) (by omega) (fun c41 => ?_) (fun c41 => ?_)
          · exact absurd c41 (by omega)
          · refine aw_aload_n dX12_usesWithin_44 rfl ?_
            refine aw_iload dX12_usesWithin_45 rfl ?_
            refine aw_invV_r dX12_usesWithin_47 vX12_isSurePredicate kX12_309 rfl (KU) ⟨_, (by assumption), _, _, rfl⟩ rfl rfl (by decide) (by decide) (by decide) (Nat.le_of_ble_eq_true rfl) ?_
            refine aw_if_eq (tgt := 61) dX12_usesWithin_50 rfl (by decide) (fun c50 => ?_) (fun c50 => ?_)
            · refine aw_iload_n dX12_usesWithin_61 rfl ?_
              refine aw_bipush dX12_usesWithin_62 rfl ?_
              refine aw_ic_ne (tgt := 104) dX12_usesWithin_64 rfl (by omega) (by omega) (fun c64 => ?_) (fun c64 => ?_)
              · refine aw_iinc (k9 := 1) (ls1 := [(3, _), (4, _), (0, _), (1, _), (2, _)]) dX12_usesWithin_104 rfl (by decide) rfl ?_
                refine aw_goto (tgt := 2) dX12_usesWithin_107 rfl ?_
                refine aw_sub [0, 2, 3, 4] rfl ?_
                exact I
              · exact absurd c64 (by omega)
            · exact absurd rfl c50
        · exact absurd c24 (by omega)
    | true =>
      rw [show r7S s.2 = some (s.2.eraseIdx k) from fr_at hx e (fun j z hj2 hz => hj j z hj2 hz)]
      rw [e] at KU
      have KR := m_removePredicate (γ := γ) hM hb ho hg hlt
      obtain ⟨z1, z2, z3⟩ := gS_hRP hg ho hlt
      refine aw_iload_n dX12_usesWithin_2 rfl ?_
      refine aw_aload_n dX12_usesWithin_3 rfl ?_
      refine aw_getr' (j := 12) dX12_usesWithin_4 fX12_28 rfl (by assumption) rfl (by assumption) ?_
      refine aw_iload_n dX12_usesWithin_7 rfl ?_
      refine aw_iconst dX12_usesWithin_8 ?_
      refine aw_iadd dX12_usesWithin_9 ?_
      refine aw_iald' dX12_usesWithin_10 (by assumption) (by omega) (by first | decide | omega) g0 ?_
      refine aw_ic_ge (tgt := 110) dX12_usesWithin_11 rfl (by omega) (by omega) (fun c11 => ?_) (fun c11 => ?_)
      · exact absurd c11 (by omega)
      · refine aw_iload_n dX12_usesWithin_14 rfl ?_
        refine aw_iload_n dX12_usesWithin_15 rfl ?_
        refine aw_invS_r dX12_usesWithin_16 sX12_predicateAt kX12_168 rfl (KC) rfl rfl (by decide) (by decide) (by decide) (Nat.le_of_ble_eq_true rfl) ?_
        refine aw_istore (ls1 := [(4, _), (3, _), (0, _), (1, _), (2, _)]) dX12_usesWithin_19 (by decide) rfl ?_
        refine aw_iload_n dX12_usesWithin_21 rfl ?_
        refine aw_bipush dX12_usesWithin_22 rfl ?_
        refine aw_ic_ne (tgt := 38) dX12_usesWithin_24 rfl (by omega) (by omega) (fun c24 => ?_) (fun c24 => ?_)
        · refine aw_iload_n dX12_usesWithin_38 rfl ?_
          refine aw_bipush dX12_usesWithin_39 rfl ?_
          refine aw_ic_ne (tgt := 61) dX12_usesWithin_41 rfl (by omega) (by omega) (fun c41 => ?_) (fun c41 => ?_)
          · exact absurd c41 (by omega)
          · refine aw_aload_n dX12_usesWithin_44 rfl ?_
            refine aw_iload dX12_usesWithin_45 rfl ?_
            refine aw_invV_r dX12_usesWithin_47 vX12_isSurePredicate kX12_309 rfl (KU) ⟨_, (by assumption), _, _, rfl⟩ rfl rfl (by decide) (by decide) (by decide) (Nat.le_of_ble_eq_true rfl) ?_
            refine aw_if_eq (tgt := 61) dX12_usesWithin_50 rfl (by decide) (fun c50 => ?_) (fun c50 => ?_)
            · exact absurd c50 (by decide)
            · refine aw_aload_n dX12_usesWithin_53 rfl ?_
              refine aw_iload_n dX12_usesWithin_54 rfl ?_
              refine aw_iload_n dX12_usesWithin_55 rfl ?_
              refine aw_invV_n dX12_usesWithin_56 vX12_removePredicate kX12_312 rfl (KR) ⟨_, (by assumption), _, _, rfl⟩ rfl rfl (by decide) (by decide) (by decide) (Nat.le_of_ble_eq_true rfl) ?_
              refine aw_iconst dX12_usesWithin_59 ?_
              exact aw_zreturn dX12_usesWithin_60 rfl (by omega) (Or.inl rfl) ⟨rfl, z1, z2, z3.mono (SW_q (by omega) (by omega))⟩
        · exact absurd c24 (by omega)
theorem l_w8 {γ : GG} {h : AH} {a : Nat} {b : Int} {s : TS} (hM : shM h a) (ho : okS s) (hb : 1 ≤ b ∧ b + 204 ≤ 6537) (hg : gS (gi h (a + 7)) b s) (hw : ∀ p ∈ s.2, (wPred p).length ≤ 500) : ∀ (r : List TP) (k : Nat) (H : AH), s.2.drop k = r → k ≤ s.2.length → eqG (SO a) h H → (∀ j x y, j + 1 < k → s.2[j]? = some x → s.2[j + 1]? = some y → (t_dP x y && !isPosP y) = false) → AW γ mX12_usesWithin 5 0 0 2 [(3, vi (k : Int)), (0, vr (some a)), (1, vi 8), (2, vi b)] [] H (rW h a b s (r8S s.2)) := by
  have l3 := ho.2.1
  intro r
  induction r with
  | nil =>
    intro k H hd hkl hE hj
    obtain ⟨hka, rq, kq⟩ := (hE.sh hM).q
    have hg1 := hg
    rw [← gi7o hE] at hg1
    have g0 := hg1.2.2.1
    have hk := List.drop_eq_nil_iff.mp hd
    rw [show r8S s.2 = none from fn2_none (fun j x y h1 h2 => hj j x y (by have := lt_of_get h2; omega) h1 h2)]
    refine aw_iload_n dX12_usesWithin_2 rfl ?_
    refine aw_aload_n dX12_usesWithin_3 rfl ?_
    refine aw_getr' (j := 12) dX12_usesWithin_4 fX12_28 rfl (by assumption) rfl (by assumption) ?_
    refine aw_iload_n dX12_usesWithin_7 rfl ?_
    refine aw_iconst dX12_usesWithin_8 ?_
    refine aw_iadd dX12_usesWithin_9 ?_
    refine aw_iald' dX12_usesWithin_10 (by assumption) (by omega) (by first | decide | omega) g0 ?_
    refine aw_ic_ge (tgt := 110) dX12_usesWithin_11 rfl (by omega) (by omega) (fun c11 => ?_) (fun c11 => ?_)
    · refine aw_iconst dX12_usesWithin_110 ?_
      exact aw_zreturn dX12_usesWithin_111 rfl (by omega) (Or.inl rfl) ⟨rfl, hE⟩
    · exact absurd c11 (by omega)
  | cons x r ih =>
    intro k H hd hkl hE hj
    have hM1 := hE.sh hM
    obtain ⟨hka, rq, kq⟩ := hM1.q
    have hg1 := hg
    rw [← gi7o hE] at hg1
    have g0 := hg1.2.2.1
    obtain ⟨hx, hdr, hlt⟩ := drop_hd hd
    have ox := ho.2.2 x (List.mem_of_getElem? hx)
    have gx := hg1.2.2.2 k x hx
    have wx := hw x (List.mem_of_getElem? hx)
    have KC := m_predicateAt (γ := γ) (h := H) (p := b) (k := (k : Int))
    have KU := m_isPositional (γ := γ) hM1 ox (by omega) gx
    by_cases k0 : k = 0
    · have I := ih (k + 1) H hdr (by omega) hE (fun j y z hj2 => absurd hj2 (by omega))
      refine aw_iload_n dX12_usesWithin_2 rfl ?_
      refine aw_aload_n dX12_usesWithin_3 rfl ?_
      refine aw_getr' (j := 12) dX12_usesWithin_4 fX12_28 rfl (by assumption) rfl (by assumption) ?_
      refine aw_iload_n dX12_usesWithin_7 rfl ?_
      refine aw_iconst dX12_usesWithin_8 ?_
      refine aw_iadd dX12_usesWithin_9 ?_
      refine aw_iald' dX12_usesWithin_10 (by assumption) (by omega) (by first | decide | omega) g0 ?_
      refine aw_ic_ge (tgt := 110) dX12_usesWithin_11 rfl (by omega) (by omega) (fun c11 => ?_) (fun c11 => ?_)
      · exact absurd c11 (by omega)
      · refine aw_iload_n dX12_usesWithin_14 rfl ?_
        refine aw_iload_n dX12_usesWithin_15 rfl ?_
        refine aw_invS_r dX12_usesWithin_16 sX12_predicateAt kX12_168 rfl (KC) rfl rfl (by decide) (by decide) (by decide) (Nat.le_of_ble_eq_true rfl) ?_
        refine aw_istore (ls1 := [(4, _), (3, _), (0, _), (1, _), (2, _)]) dX12_usesWithin_19 (by decide) rfl ?_
        refine aw_iload_n dX12_usesWithin_21 rfl ?_
        refine aw_bipush dX12_usesWithin_22 rfl ?_
        refine aw_ic_ne (tgt := 38) dX12_usesWithin_24 rfl (by omega) (by omega) (fun c24 => ?_) (fun c24 => ?_)
        · refine aw_iload_n dX12_usesWithin_38 rfl ?_
          refine aw_bipush dX12_usesWithin_39 rfl ?_
          refine aw_ic_ne (tgt := 61) dX12_usesWithin_41 rfl (by omega) (by omega) (fun c41 => ?_) (fun c41 => ?_)
          · refine aw_iload_n dX12_usesWithin_61 rfl ?_
            refine aw_bipush dX12_usesWithin_62 rfl ?_
            refine aw_ic_ne (tgt := 104) dX12_usesWithin_64 rfl (by omega) (by omega) (fun c64 => ?_) (fun c64 => ?_)
            · exact absurd c64 (by omega)
            · refine aw_iload_n dX12_usesWithin_67 rfl ?_
              refine aw_if_le (tgt := 104) dX12_usesWithin_68 rfl (by omega) (fun c68 => ?_) (fun c68 => ?_)
              · refine aw_iinc (k9 := 1) (ls1 := [(3, _), (4, _), (0, _), (1, _), (2, _)]) dX12_usesWithin_104 rfl (by decide) rfl ?_
                refine aw_goto (tgt := 2) dX12_usesWithin_107 rfl ?_
                refine aw_sub [0, 2, 3, 4] rfl ?_
                exact I
              · exact absurd c68 (by omega)
          · exact absurd c41 (by omega)
        · exact absurd c24 (by omega)
    · obtain ⟨k9, rfl⟩ : ∃ k9, k = k9 + 1 := ⟨k - 1, by omega⟩
      obtain ⟨y, hy⟩ : ∃ y, s.2[k9]? = some y := ⟨_, List.getElem?_eq_getElem (by omega)⟩
      have oy := ho.2.2 y (List.mem_of_getElem? hy)
      have gy := hg1.2.2.2 k9 y hy
      have wy := hw y (List.mem_of_getElem? hy)
      have ek : ((k9 + 1 : Nat) : Int) - 1 = (k9 : Int) := by omega
      have KD := m_predicateAt (γ := γ) (h := H) (p := b) (k := (k9 : Int))
      have KA := m_areAlike (γ := γ) hM1 oy ox (by omega) (by omega) gy gx (by omega)
      have nxt : (t_dP y x && !isPosP x) = false → ∀ j p q, j + 1 < k9 + 1 + 1 → s.2[j]? = some p → s.2[j + 1]? = some q → (t_dP p q && !isPosP q) = false := fun e j p q hj2 hp hq => by
        by_cases z : j = k9
        · subst z
          rw [hy] at hp
          rw [hx] at hq
          cases hp
          cases hq
          exact e
        · exact hj j p q (by omega) hp hq
      cases ep : isPosP x with
      | true =>
        rw [ep] at KU
        have I := ih (k9 + 1 + 1) H hdr (by omega) hE (nxt (by rw [ep]; simp))
        refine aw_iload_n dX12_usesWithin_2 rfl ?_
        refine aw_aload_n dX12_usesWithin_3 rfl ?_
        refine aw_getr' (j := 12) dX12_usesWithin_4 fX12_28 rfl (by assumption) rfl (by assumption) ?_
        refine aw_iload_n dX12_usesWithin_7 rfl ?_
        refine aw_iconst dX12_usesWithin_8 ?_
        refine aw_iadd dX12_usesWithin_9 ?_
        refine aw_iald' dX12_usesWithin_10 (by assumption) (by omega) (by first | decide | omega) g0 ?_
        refine aw_ic_ge (tgt := 110) dX12_usesWithin_11 rfl (by omega) (by omega) (fun c11 => ?_) (fun c11 => ?_)
        · exact absurd c11 (by omega)
        · refine aw_iload_n dX12_usesWithin_14 rfl ?_
          refine aw_iload_n dX12_usesWithin_15 rfl ?_
          refine aw_invS_r dX12_usesWithin_16 sX12_predicateAt kX12_168 rfl (KC) rfl rfl (by decide) (by decide) (by decide) (Nat.le_of_ble_eq_true rfl) ?_
          refine aw_istore (ls1 := [(4, _), (3, _), (0, _), (1, _), (2, _)]) dX12_usesWithin_19 (by decide) rfl ?_
          refine aw_iload_n dX12_usesWithin_21 rfl ?_
          refine aw_bipush dX12_usesWithin_22 rfl ?_
          refine aw_ic_ne (tgt := 38) dX12_usesWithin_24 rfl (by omega) (by omega) (fun c24 => ?_) (fun c24 => ?_)
          · refine aw_iload_n dX12_usesWithin_38 rfl ?_
            refine aw_bipush dX12_usesWithin_39 rfl ?_
            refine aw_ic_ne (tgt := 61) dX12_usesWithin_41 rfl (by omega) (by omega) (fun c41 => ?_) (fun c41 => ?_)
            · refine aw_iload_n dX12_usesWithin_61 rfl ?_
              refine aw_bipush dX12_usesWithin_62 rfl ?_
              refine aw_ic_ne (tgt := 104) dX12_usesWithin_64 rfl (by omega) (by omega) (fun c64 => ?_) (fun c64 => ?_)
              · exact absurd c64 (by omega)
              · refine aw_iload_n dX12_usesWithin_67 rfl ?_
                refine aw_if_le (tgt := 104) dX12_usesWithin_68 rfl (by omega) (fun c68 => ?_) (fun c68 => ?_)
                · exact absurd c68 (by omega)
                · refine aw_aload_n dX12_usesWithin_71 rfl ?_
                  refine aw_iload dX12_usesWithin_72 rfl ?_
                  refine aw_invV_r dX12_usesWithin_74 vX12_isPositional kX12_226 rfl (KU) ⟨_, (by assumption), _, _, rfl⟩ rfl rfl (by decide) (by decide) (by decide) (Nat.le_of_ble_eq_true rfl) ?_
                  refine aw_if_ne (tgt := 104) dX12_usesWithin_77 rfl (by decide) (fun c77 => ?_) (fun c77 => ?_)
                  · refine aw_iinc (k9 := 1) (ls1 := [(3, _), (4, _), (0, _), (1, _), (2, _)]) dX12_usesWithin_104 rfl (by decide) rfl ?_
                    refine aw_goto (tgt := 2) dX12_usesWithin_107 rfl ?_
                    refine aw_sub [0, 2, 3, 4] rfl ?_
                    exact I
                  · exact absurd c77 (by decide)
            · exact absurd c41 (by omega)
          · exact absurd c24 (by omega)
      | false =>
        rw [ep] at KU
        cases ea : t_dP y x with
        | false =>
          rw [ea, if_neg (by decide)] at KA
          refine aw_iload_n dX12_usesWithin_2 rfl ?_
          refine aw_aload_n dX12_usesWithin_3 rfl ?_
          refine aw_getr' (j := 12) dX12_usesWithin_4 fX12_28 rfl (by assumption) rfl (by assumption) ?_
          refine aw_iload_n dX12_usesWithin_7 rfl ?_
          refine aw_iconst dX12_usesWithin_8 ?_
          refine aw_iadd dX12_usesWithin_9 ?_
          refine aw_iald' dX12_usesWithin_10 (by assumption) (by omega) (by first | decide | omega) g0 ?_
          refine aw_ic_ge (tgt := 110) dX12_usesWithin_11 rfl (by omega) (by omega) (fun c11 => ?_) (fun c11 => ?_)
          · exact absurd c11 (by omega)
          · refine aw_iload_n dX12_usesWithin_14 rfl ?_
            refine aw_iload_n dX12_usesWithin_15 rfl ?_
            refine aw_invS_r dX12_usesWithin_16 sX12_predicateAt kX12_168 rfl (KC) rfl rfl (by decide) (by decide) (by decide) (Nat.le_of_ble_eq_true rfl) ?_
            refine aw_istore (ls1 := [(4, _), (3, _), (0, _), (1, _), (2, _)]) dX12_usesWithin_19 (by decide) rfl ?_
            refine aw_iload_n dX12_usesWithin_21 rfl ?_
            refine aw_bipush dX12_usesWithin_22 rfl ?_
            refine aw_ic_ne (tgt := 38) dX12_usesWithin_24 rfl (by omega) (by omega) (fun c24 => ?_) (fun c24 => ?_)
            · refine aw_iload_n dX12_usesWithin_38 rfl ?_
              refine aw_bipush dX12_usesWithin_39 rfl ?_
              refine aw_ic_ne (tgt := 61) dX12_usesWithin_41 rfl (by omega) (by omega) (fun c41 => ?_) (fun c41 => ?_)
              · refine aw_iload_n dX12_usesWithin_61 rfl ?_
                refine aw_bipush dX12_usesWithin_62 rfl ?_
                refine aw_ic_ne (tgt := 104) dX12_usesWithin_64 rfl (by omega) (by omega) (fun c64 => ?_) (fun c64 => ?_)
                · exact absurd c64 (by omega)
                · refine aw_iload_n dX12_usesWithin_67 rfl ?_
                  refine aw_if_le (tgt := 104) dX12_usesWithin_68 rfl (by omega) (fun c68 => ?_) (fun c68 => ?_)
                  · exact absurd c68 (by omega)
                  · refine aw_aload_n dX12_usesWithin_71 rfl ?_
                    refine aw_iload dX12_usesWithin_72 rfl ?_
                    refine aw_invV_r dX12_usesWithin_74 vX12_isPositional kX12_226 rfl (KU) ⟨_, (by assumption), _, _, rfl⟩ rfl rfl (by decide) (by decide) (by decide) (Nat.le_of_ble_eq_true rfl) ?_
                    refine aw_if_ne (tgt := 104) dX12_usesWithin_77 rfl (by decide) (fun c77 => ?_) (fun c77 => ?_)
                    · exact absurd rfl c77
                    · refine aw_aload_n dX12_usesWithin_80 rfl ?_
                      refine aw_iload_n dX12_usesWithin_81 rfl ?_
                      refine aw_iload_n dX12_usesWithin_82 rfl ?_
                      refine aw_iconst dX12_usesWithin_83 ?_
                      refine aw_isub dX12_usesWithin_84 ?_
                      rw [ek]
                      refine aw_invS_r dX12_usesWithin_85 sX12_predicateAt kX12_168 rfl (KD) rfl rfl (by decide) (by decide) (by decide) (Nat.le_of_ble_eq_true rfl) ?_
                      refine aw_iload dX12_usesWithin_88 rfl ?_
                      refine aw_invV_e dX12_usesWithin_90 vX12_areAlike kX12_315 rfl (KA) ⟨_, (by assumption), _, _, rfl⟩ rfl rfl (by decide) (by decide) (by decide) (Nat.le_of_ble_eq_true rfl) (fun h1 hP9 => ?_)
                      have E1 := hP9
                      refine aw_if_eq (tgt := 104) dX12_usesWithin_93 rfl (by omega) (fun c93 => ?_) (fun c93 => ?_)
                      · refine aw_iinc (k9 := 1) (ls1 := [(3, _), (4, _), (0, _), (1, _), (2, _)]) dX12_usesWithin_104 rfl (by decide) rfl ?_
                        refine aw_goto (tgt := 2) dX12_usesWithin_107 rfl ?_
                        refine aw_sub [0, 2, 3, 4] rfl ?_
                        exact ih (k9 + 1 + 1) h1 hdr (by omega) (hE.tr E1) (nxt (by rw [ea]; rfl))
                      · exact absurd c93 (by omega)
              · exact absurd c41 (by omega)
            · exact absurd c24 (by omega)
        | true =>
          rw [ea, if_pos rfl] at KA
          rw [show r8S s.2 = some (s.2.eraseIdx (k9 + 1)) from fn2_at hy hx (by rw [ea, ep]; rfl) (fun j p q hj2 hp hq => hj j p q (by omega) hp hq)]
          refine aw_iload_n dX12_usesWithin_2 rfl ?_
          refine aw_aload_n dX12_usesWithin_3 rfl ?_
          refine aw_getr' (j := 12) dX12_usesWithin_4 fX12_28 rfl (by assumption) rfl (by assumption) ?_
          refine aw_iload_n dX12_usesWithin_7 rfl ?_
          refine aw_iconst dX12_usesWithin_8 ?_
          refine aw_iadd dX12_usesWithin_9 ?_
          refine aw_iald' dX12_usesWithin_10 (by assumption) (by omega) (by first | decide | omega) g0 ?_
          refine aw_ic_ge (tgt := 110) dX12_usesWithin_11 rfl (by omega) (by omega) (fun c11 => ?_) (fun c11 => ?_)
          · exact absurd c11 (by omega)
          · refine aw_iload_n dX12_usesWithin_14 rfl ?_
            refine aw_iload_n dX12_usesWithin_15 rfl ?_
            refine aw_invS_r dX12_usesWithin_16 sX12_predicateAt kX12_168 rfl (KC) rfl rfl (by decide) (by decide) (by decide) (Nat.le_of_ble_eq_true rfl) ?_
            refine aw_istore (ls1 := [(4, _), (3, _), (0, _), (1, _), (2, _)]) dX12_usesWithin_19 (by decide) rfl ?_
            refine aw_iload_n dX12_usesWithin_21 rfl ?_
            refine aw_bipush dX12_usesWithin_22 rfl ?_
            refine aw_ic_ne (tgt := 38) dX12_usesWithin_24 rfl (by omega) (by omega) (fun c24 => ?_) (fun c24 => ?_)
            · refine aw_iload_n dX12_usesWithin_38 rfl ?_
              refine aw_bipush dX12_usesWithin_39 rfl ?_
              refine aw_ic_ne (tgt := 61) dX12_usesWithin_41 rfl (by omega) (by omega) (fun c41 => ?_) (fun c41 => ?_)
              · refine aw_iload_n dX12_usesWithin_61 rfl ?_
                refine aw_bipush dX12_usesWithin_62 rfl ?_
                refine aw_ic_ne (tgt := 104) dX12_usesWithin_64 rfl (by omega) (by omega) (fun c64 => ?_) (fun c64 => ?_)
                · exact absurd c64 (by omega)
                · refine aw_iload_n dX12_usesWithin_67 rfl ?_
                  refine aw_if_le (tgt := 104) dX12_usesWithin_68 rfl (by omega) (fun c68 => ?_) (fun c68 => ?_)
                  · exact absurd c68 (by omega)
                  · refine aw_aload_n dX12_usesWithin_71 rfl ?_
                    refine aw_iload dX12_usesWithin_72 rfl ?_
                    refine aw_invV_r dX12_usesWithin_74 vX12_isPositional kX12_226 rfl (KU) ⟨_, (by assumption), _, _, rfl⟩ rfl rfl (by decide) (by decide) (by decide) (Nat.le_of_ble_eq_true rfl) ?_
                    refine aw_if_ne (tgt := 104) dX12_usesWithin_77 rfl (by decide) (fun c77 => ?_) (fun c77 => ?_)
                    · exact absurd rfl c77
                    · refine aw_aload_n dX12_usesWithin_80 rfl ?_
                      refine aw_iload_n dX12_usesWithin_81 rfl ?_
                      refine aw_iload_n dX12_usesWithin_82 rfl ?_
                      refine aw_iconst dX12_usesWithin_83 ?_
                      refine aw_isub dX12_usesWithin_84 ?_
                      rw [ek]
                      refine aw_invS_r dX12_usesWithin_85 sX12_predicateAt kX12_168 rfl (KD) rfl rfl (by decide) (by decide) (by decide) (Nat.le_of_ble_eq_true rfl) ?_
                      refine aw_iload dX12_usesWithin_88 rfl ?_
                      refine aw_invV_e dX12_usesWithin_90 vX12_areAlike kX12_315 rfl (KA) ⟨_, (by assumption), _, _, rfl⟩ rfl rfl (by decide) (by decide) (by decide) (Nat.le_of_ble_eq_true rfl) (fun h1 hP9 => ?_)
                      have E1 := hP9
                      have hg2 := hg1
                      rw [← gi7o E1] at hg2
                      have KR := m_removePredicate (γ := γ) (E1.sh hM1) hb ho hg2 hlt
                      obtain ⟨z1, z2, z3⟩ := gS_hRP hg2 ho hlt
                      have hka1 := (E1.1 a).trans hka
                      refine aw_if_eq (tgt := 104) dX12_usesWithin_93 rfl (by omega) (fun c93 => ?_) (fun c93 => ?_)
                      · exact absurd c93 (by omega)
                      · refine aw_aload_n dX12_usesWithin_96 rfl ?_
                        refine aw_iload_n dX12_usesWithin_97 rfl ?_
                        refine aw_iload_n dX12_usesWithin_98 rfl ?_
                        refine aw_invV_n dX12_usesWithin_99 vX12_removePredicate kX12_312 rfl (KR) ⟨_, hka1, _, _, rfl⟩ rfl rfl (by decide) (by decide) (by decide) (Nat.le_of_ble_eq_true rfl) ?_
                        refine aw_iconst dX12_usesWithin_102 ?_
                        exact aw_zreturn dX12_usesWithin_103 rfl (by omega) (Or.inl rfl) ⟨rfl, z1, z2, ((hE.tr E1).mono SW_o).tr (z3.mono (SW_q (by omega) (by omega)))⟩
              · exact absurd c41 (by omega)
            · exact absurd c24 (by omega)
def rS9 (n : Int) (ps : List TP) : Option (List TP) := if n = 6 then r6S ps else if n = 7 then r7S ps else r8S ps
theorem m_usesWithin {γ : GG} {h : AH} {a : Nat} {b : Int} {s : TS} (hM : shM h a) (ho : okS s) (hb : 1 ≤ b ∧ b + 204 ≤ 6537) (hg : gS (gi h (a + 7)) b s) (hw : ∀ p ∈ s.2, (wPred p).length ≤ 500) {n : Int} (hn : n = 6 ∨ n = 7 ∨ n = 8) : Call γ mX12_usesWithin 5 0 0 [vr (some a), vi n, vi b] h (rW h a b s (rS9 n s.2)) := by
  rcases hn with rfl | rfl | rfl
  · have L := l_w6 (γ := γ) hM ho hb hg s.2 0 rfl (Nat.zero_le _) (fun j x hj => absurd hj (by omega))
    refine Call.of (ls := [(0, vr (some a)), (1, vi 6), (2, vi b)]) vX12_usesWithin.1 (Nat.le_of_ble_eq_true rfl) rfl ?_
    refine aw_iconst dX12_usesWithin_0 ?_
    refine aw_istore_n (ls1 := [(3, _), (0, _), (1, _), (2, _)]) dX12_usesWithin_1 (by decide) rfl ?_
    refine aw_sub [0, 1, 2, 3] rfl ?_
    exact L
  · have L := l_w7 (γ := γ) hM ho hb hg s.2 0 rfl (Nat.zero_le _) (fun j x hj => absurd hj (by omega))
    refine Call.of (ls := [(0, vr (some a)), (1, vi 7), (2, vi b)]) vX12_usesWithin.1 (Nat.le_of_ble_eq_true rfl) rfl ?_
    refine aw_iconst dX12_usesWithin_0 ?_
    refine aw_istore_n (ls1 := [(3, _), (0, _), (1, _), (2, _)]) dX12_usesWithin_1 (by decide) rfl ?_
    refine aw_sub [0, 1, 2, 3] rfl ?_
    exact L
  · have L := l_w8 (γ := γ) hM ho hb hg hw s.2 0 h rfl (Nat.zero_le _) eqG.rf (fun j x y hj => absurd hj (by omega))
    refine Call.of (ls := [(0, vr (some a)), (1, vi 8), (2, vi b)]) vX12_usesWithin.1 (Nat.le_of_ble_eq_true rfl) rfl ?_
    refine aw_iconst dX12_usesWithin_0 ?_
    refine aw_istore_n (ls1 := [(3, _), (0, _), (1, _), (2, _)]) dX12_usesWithin_1 (by decide) rfl ?_
    refine aw_sub [0, 1, 2, 3] rfl ?_
    exact L
def rA9 (h : AH) (a : Nat) (b : Int) (t : TT) : Option (List TS) → AR → AH → Prop
  | none => rV (vi 0) h
  | some l => rE (vi 1) (fun h' => PT h' a b (t.1, l) ∧ eqG (SQ a (b + 1) (b + 1634)) h h')
theorem m_uA1 {γ : GG} {h : AH} {a : Nat} {b : Int} {t : TT} {i : Nat} (hM : shM h a) (hb : 1 ≤ b ∧ b + 1634 ≤ 6537) (hT : PT h a b t) {s : TS} (hs : t.2[i]? = some s) : Call γ mX12_usesAt 3 0 0 [vr (some a), vi 1, vi b, vi (i : Int)] h (rA9 h a b t (if 1 < t.2.length ∧ f1 s = true then some (t.2.eraseIdx i) else none)) := by
  obtain ⟨hka, rq, kq⟩ := hM.q
  have hi := lt_of_get hs
  have l8 := hT.2.1
  have g1 := hT.1.2.1
  obtain ⟨gs, os, -⟩ := PT_st hT hs
  have KC := m_stepAt (γ := γ) (h := h) (p := b) (k := (i : Int))
  have KD := m_stepAt (γ := γ) (h := h) (p := b) (k := (i : Int) + 1)
  have KP := m_isPlain (γ := γ) (x := 1) hM (by omega) (by decide) os gs
  have KR := m_removes (γ := γ) hM hb hT hi
  have L : AW γ mX12_usesAt 3 0 0 64 [(4, vi (b + 2 + 204 * (i : Int))), (0, vr (some a)), (2, vi b), (3, vi (i : Int))] [] h (rA9 h a b t (if 1 < t.2.length ∧ f1 s = true then some (t.2.eraseIdx i) else none)) := by
    by_cases q : s.1 = (1, 8) ∧ s.2.length = 0
    · have ef : f1 s = true := by unfold f1; exact decide_eq_true q
      rw [if_pos q] at KP
      by_cases q2 : 1 < t.2.length
      · rw [if_pos ⟨q2, ef⟩]
        refine aw_aload_n dX12_usesAt_64 rfl ?_
        refine aw_iload dX12_usesAt_65 rfl ?_
        refine aw_iconst dX12_usesAt_67 ?_
        refine aw_invV_r dX12_usesAt_68 vX12_isPlain kX12_282 rfl (KP) ⟨_, (by assumption), _, _, rfl⟩ rfl rfl (by decide) (by decide) (by decide) (Nat.le_of_ble_eq_true rfl) ?_
        refine aw_if_eq (tgt := 99) dX12_usesAt_71 rfl (by omega) (fun c71 => ?_) (fun c71 => ?_)
        · exact absurd c71 (by omega)
        · refine aw_aload_n dX12_usesAt_74 rfl ?_
          refine aw_getr' (j := 12) dX12_usesAt_75 fX12_28 rfl (by assumption) rfl (by assumption) ?_
          refine aw_iload_n dX12_usesAt_78 rfl ?_
          refine aw_iconst dX12_usesAt_79 ?_
          refine aw_iadd dX12_usesAt_80 ?_
          refine aw_iald' dX12_usesAt_81 (by assumption) (by omega) (by first | decide | omega) g1 ?_
          refine aw_iconst dX12_usesAt_82 ?_
          refine aw_ic_le (tgt := 99) dX12_usesAt_83 rfl (by omega) (by omega) (fun c83 => ?_) (fun c83 => ?_)
          · exact absurd c83 (by omega)
          · refine aw_aload_n dX12_usesAt_86 rfl ?_
            refine aw_iload_n dX12_usesAt_87 rfl ?_
            refine aw_iload_n dX12_usesAt_88 rfl ?_
            refine aw_invV_e dX12_usesAt_89 vX12_removes kX12_285 rfl (KR) ⟨_, (by assumption), _, _, rfl⟩ rfl rfl (by decide) (by decide) (by decide) (Nat.le_of_ble_eq_true rfl) (fun h1 hP9 => ?_)
            have z1 := hP9
            refine aw_if_eq (tgt := 99) dX12_usesAt_92 rfl (by omega) (fun c92 => ?_) (fun c92 => ?_)
            · exact absurd c92 (by omega)
            · refine aw_iconst dX12_usesAt_95 ?_
              refine aw_goto (tgt := 100) dX12_usesAt_96 rfl ?_
              exact aw_zreturn dX12_usesAt_100 rfl (by omega) (Or.inl rfl) ⟨rfl, z1⟩
      · rw [if_neg (fun z => q2 z.1)]
        refine aw_aload_n dX12_usesAt_64 rfl ?_
        refine aw_iload dX12_usesAt_65 rfl ?_
        refine aw_iconst dX12_usesAt_67 ?_
        refine aw_invV_r dX12_usesAt_68 vX12_isPlain kX12_282 rfl (KP) ⟨_, (by assumption), _, _, rfl⟩ rfl rfl (by decide) (by decide) (by decide) (Nat.le_of_ble_eq_true rfl) ?_
        refine aw_if_eq (tgt := 99) dX12_usesAt_71 rfl (by omega) (fun c71 => ?_) (fun c71 => ?_)
        · exact absurd c71 (by omega)
        · refine aw_aload_n dX12_usesAt_74 rfl ?_
          refine aw_getr' (j := 12) dX12_usesAt_75 fX12_28 rfl (by assumption) rfl (by assumption) ?_
          refine aw_iload_n dX12_usesAt_78 rfl ?_
          refine aw_iconst dX12_usesAt_79 ?_
          refine aw_iadd dX12_usesAt_80 ?_
          refine aw_iald' dX12_usesAt_81 (by assumption) (by omega) (by first | decide | omega) g1 ?_
          refine aw_iconst dX12_usesAt_82 ?_
          refine aw_ic_le (tgt := 99) dX12_usesAt_83 rfl (by omega) (by omega) (fun c83 => ?_) (fun c83 => ?_)
          · refine aw_iconst dX12_usesAt_99 ?_
            exact aw_zreturn dX12_usesAt_100 rfl (by omega) (Or.inl rfl) ⟨rfl, rfl⟩
          · exact absurd c83 (by omega)
    · have ef : f1 s = false := by unfold f1; exact decide_eq_false q
      rw [if_neg q] at KP
      rw [if_neg (fun z => by rw [ef] at z; exact absurd z.2 (by decide))]
      refine aw_aload_n dX12_usesAt_64 rfl ?_
      refine aw_iload dX12_usesAt_65 rfl ?_
      refine aw_iconst dX12_usesAt_67 ?_
      refine aw_invV_r dX12_usesAt_68 vX12_isPlain kX12_282 rfl (KP) ⟨_, (by assumption), _, _, rfl⟩ rfl rfl (by decide) (by decide) (by decide) (Nat.le_of_ble_eq_true rfl) ?_
      refine aw_if_eq (tgt := 99) dX12_usesAt_71 rfl (by omega) (fun c71 => ?_) (fun c71 => ?_)
      · refine aw_iconst dX12_usesAt_99 ?_
        exact aw_zreturn dX12_usesAt_100 rfl (by omega) (Or.inl rfl) ⟨rfl, rfl⟩
      · exact absurd c71 (by omega)
  refine Call.of (ls := [(0, vr (some a)), (1, vi 1), (2, vi b), (3, vi (i : Int))]) vX12_usesAt.1 (Nat.le_of_ble_eq_true rfl) rfl ?_
  refine aw_iload_n dX12_usesAt_0 rfl ?_
  refine aw_iload_n dX12_usesAt_1 rfl ?_
  refine aw_invS_r dX12_usesAt_2 sX12_stepAt kX12_165 rfl (KC) rfl rfl (by decide) (by decide) (by decide) (Nat.le_of_ble_eq_true rfl) ?_
  refine aw_istore (ls1 := [(4, _), (0, _), (1, _), (2, _), (3, _)]) dX12_usesAt_5 (by decide) rfl ?_
  refine aw_iload_n dX12_usesAt_7 rfl ?_
  refine aw_iconst dX12_usesAt_8 ?_
  refine aw_iadd dX12_usesAt_9 ?_
  refine aw_aload_n dX12_usesAt_10 rfl ?_
  refine aw_getr' (j := 12) dX12_usesAt_11 fX12_28 rfl (by assumption) rfl (by assumption) ?_
  refine aw_iload_n dX12_usesAt_14 rfl ?_
  refine aw_iconst dX12_usesAt_15 ?_
  refine aw_iadd dX12_usesAt_16 ?_
  refine aw_iald' dX12_usesAt_17 (by assumption) (by omega) (by first | decide | omega) g1 ?_
  refine aw_ic_ge (tgt := 31) dX12_usesAt_18 rfl (by omega) (by omega) (fun c18 => ?_) (fun c18 => ?_)
  · refine aw_iconst dX12_usesAt_31 ?_
    refine aw_istore (ls1 := [(5, _), (4, _), (0, _), (1, _), (2, _), (3, _)]) dX12_usesAt_32 (by decide) rfl ?_
    refine aw_iload_n dX12_usesAt_34 rfl ?_
    refine aw_tableIn (off := 29) (tgt := 64) dX12_usesAt_35 (by omega) (by decide) (by decide) rfl rfl ?_
    refine aw_sub [1, 2, 4, 5] rfl ?_
    exact L
  · refine aw_iload_n dX12_usesAt_21 rfl ?_
    refine aw_iload_n dX12_usesAt_22 rfl ?_
    refine aw_iconst dX12_usesAt_23 ?_
    refine aw_iadd dX12_usesAt_24 ?_
    refine aw_invS_r dX12_usesAt_25 sX12_stepAt kX12_165 rfl (KD) rfl rfl (by decide) (by decide) (by decide) (Nat.le_of_ble_eq_true rfl) ?_
    refine aw_goto (tgt := 32) dX12_usesAt_28 rfl ?_
    refine aw_istore (ls1 := [(5, _), (4, _), (0, _), (1, _), (2, _), (3, _)]) dX12_usesAt_32 (by decide) rfl ?_
    refine aw_iload_n dX12_usesAt_34 rfl ?_
    refine aw_tableIn (off := 29) (tgt := 64) dX12_usesAt_35 (by omega) (by decide) (by decide) rfl rfl ?_
    refine aw_sub [1, 2, 4, 5] rfl ?_
    exact L
theorem m_uA2 {γ : GG} {h : AH} {a : Nat} {b : Int} {t : TT} {i : Nat} (hM : shM h a) (hb : 1 ≤ b ∧ b + 1634 ≤ 6537) (hT : PT h a b t) {s : TS} (hs : t.2[i]? = some s) : Call γ mX12_usesAt 3 0 0 [vr (some a), vi 2, vi b, vi (i : Int)] h (rA9 h a b t (match t.2[i + 1]? with | none => none | some u => (f2 s u).map (fun x => (t.2.set i x).eraseIdx (i + 1)))) := by
  obtain ⟨hka, rq, kq⟩ := hM.q
  have hi := lt_of_get hs
  have l8 := hT.2.1
  have g1 := hT.1.2.1
  obtain ⟨gs, os, -⟩ := PT_st hT hs
  have KC := m_stepAt (γ := γ) (h := h) (p := b) (k := (i : Int))
  cases hu : t.2[i + 1]? with
  | none =>
    have hl := List.getElem?_eq_none_iff.mp hu
    refine Call.of (ls := [(0, vr (some a)), (1, vi 2), (2, vi b), (3, vi (i : Int))]) vX12_usesAt.1 (Nat.le_of_ble_eq_true rfl) rfl ?_
    refine aw_iload_n dX12_usesAt_0 rfl ?_
    refine aw_iload_n dX12_usesAt_1 rfl ?_
    refine aw_invS_r dX12_usesAt_2 sX12_stepAt kX12_165 rfl (KC) rfl rfl (by decide) (by decide) (by decide) (Nat.le_of_ble_eq_true rfl) ?_
    refine aw_istore (ls1 := [(4, _), (0, _), (1, _), (2, _), (3, _)]) dX12_usesAt_5 (by decide) rfl ?_
    refine aw_iload_n dX12_usesAt_7 rfl ?_
    refine aw_iconst dX12_usesAt_8 ?_
    refine aw_iadd dX12_usesAt_9 ?_
    refine aw_aload_n dX12_usesAt_10 rfl ?_
    refine aw_getr' (j := 12) dX12_usesAt_11 fX12_28 rfl (by assumption) rfl (by assumption) ?_
    refine aw_iload_n dX12_usesAt_14 rfl ?_
    refine aw_iconst dX12_usesAt_15 ?_
    refine aw_iadd dX12_usesAt_16 ?_
    refine aw_iald' dX12_usesAt_17 (by assumption) (by omega) (by first | decide | omega) g1 ?_
    refine aw_ic_ge (tgt := 31) dX12_usesAt_18 rfl (by omega) (by omega) (fun c18 => ?_) (fun c18 => ?_)
    · refine aw_iconst dX12_usesAt_31 ?_
      refine aw_istore (ls1 := [(5, _), (4, _), (0, _), (1, _), (2, _), (3, _)]) dX12_usesAt_32 (by decide) rfl ?_
      refine aw_iload_n dX12_usesAt_34 rfl ?_
      refine aw_tableIn (off := 66) (tgt := 101) dX12_usesAt_35 (by omega) (by decide) (by decide) rfl rfl ?_
      refine aw_iload dX12_usesAt_101 rfl ?_
      refine aw_iconst dX12_usesAt_103 ?_
      refine aw_ic_eq (tgt := 149) dX12_usesAt_104 rfl (by omega) (by omega) (fun c104 => ?_) (fun c104 => ?_)
      · refine aw_iconst dX12_usesAt_149 ?_
        exact aw_zreturn dX12_usesAt_150 rfl (by omega) (Or.inl rfl) ⟨rfl, rfl⟩
      · exact absurd c104 (by omega)
    · exact absurd c18 (by omega)
  | some u =>
    have hl := lt_of_get hu
    obtain ⟨gu, ou, -⟩ := PT_st hT hu
    rw [show ((i + 1 : Nat) : Int) = (i : Int) + 1 by omega] at gu
    have KD := m_stepAt (γ := γ) (h := h) (p := b) (k := (i : Int) + 1)
    have ip := m_isPositionalStep (γ := γ) hM ou (by omega) gu
    have L : AW γ mX12_usesAt 3 0 0 101 [(5, vi (b + 2 + 204 * ((i : Int) + 1))), (4, vi (b + 2 + 204 * (i : Int))), (0, vr (some a)), (2, vi b), (3, vi (i : Int))] [] h (rA9 h a b t ((f2 s u).map (fun x => (t.2.set i x).eraseIdx (i + 1)))) := by
      have KP := m_isPlain (γ := γ) (x := 3) hM (by omega) (by decide) os gs
      have g5 := gu.1
      have o5 := ou.1
      obtain ⟨p1, p2, p3, p4⟩ := o5
      by_cases A : s.1 = (3, 8) ∧ s.2.length = 0
      · rw [if_pos A] at KP
        by_cases B : u.1.1 = 0
        · cases C : isPosS u with
          | true =>
            rw [C] at ip
            rw [show f2 s u = none from if_neg (fun z => by rw [C] at z; exact absurd z.2.2 (by decide))]
            refine aw_iload dX12_usesAt_101 rfl ?_
            refine aw_iconst dX12_usesAt_103 ?_
            refine aw_ic_eq (tgt := 149) dX12_usesAt_104 rfl (by omega) (by omega) (fun c104 => ?_) (fun c104 => ?_)
            · exact absurd c104 (by omega)
            · refine aw_aload_n dX12_usesAt_107 rfl ?_
              refine aw_iload dX12_usesAt_108 rfl ?_
              refine aw_iconst dX12_usesAt_110 ?_
              refine aw_invV_r dX12_usesAt_111 vX12_isPlain kX12_282 rfl (KP) ⟨_, (by assumption), _, _, rfl⟩ rfl rfl (by decide) (by decide) (by decide) (Nat.le_of_ble_eq_true rfl) ?_
              refine aw_if_eq (tgt := 149) dX12_usesAt_114 rfl (by omega) (fun c114 => ?_) (fun c114 => ?_)
              · exact absurd c114 (by omega)
              · refine aw_aload_n dX12_usesAt_117 rfl ?_
                refine aw_getr' (j := 12) dX12_usesAt_118 fX12_28 rfl (by assumption) rfl (by assumption) ?_
                refine aw_iload dX12_usesAt_121 rfl ?_
                refine aw_iald' dX12_usesAt_123 (by assumption) (by omega) (by first | decide | omega) g5 ?_
                refine aw_if_ne (tgt := 149) dX12_usesAt_124 rfl (by omega) (fun c124 => ?_) (fun c124 => ?_)
                · exact absurd c124 (by omega)
                · refine aw_aload_n dX12_usesAt_127 rfl ?_
                  refine aw_iload dX12_usesAt_128 rfl ?_
                  refine aw_invV_r dX12_usesAt_130 vX12_isPositionalStep kX12_229 rfl (ip) ⟨_, (by assumption), _, _, rfl⟩ rfl rfl (by decide) (by decide) (by decide) (Nat.le_of_ble_eq_true rfl) ?_
                  refine aw_if_ne (tgt := 149) dX12_usesAt_133 rfl (by decide) (fun c133 => ?_) (fun c133 => ?_)
                  · refine aw_iconst dX12_usesAt_149 ?_
                    exact aw_zreturn dX12_usesAt_150 rfl (by omega) (Or.inl rfl) ⟨rfl, rfl⟩
                  · exact absurd c133 (by decide)
          | false =>
            rw [C] at ip
            rw [show f2 s u = some ((2, u.1.2), u.2) from if_pos ⟨A, B, C⟩]
            have KJ := m_joins (γ := γ) hM hb hT hu
            refine aw_iload dX12_usesAt_101 rfl ?_
            refine aw_iconst dX12_usesAt_103 ?_
            refine aw_ic_eq (tgt := 149) dX12_usesAt_104 rfl (by omega) (by omega) (fun c104 => ?_) (fun c104 => ?_)
            · exact absurd c104 (by omega)
            · refine aw_aload_n dX12_usesAt_107 rfl ?_
              refine aw_iload dX12_usesAt_108 rfl ?_
              refine aw_iconst dX12_usesAt_110 ?_
              refine aw_invV_r dX12_usesAt_111 vX12_isPlain kX12_282 rfl (KP) ⟨_, (by assumption), _, _, rfl⟩ rfl rfl (by decide) (by decide) (by decide) (Nat.le_of_ble_eq_true rfl) ?_
              refine aw_if_eq (tgt := 149) dX12_usesAt_114 rfl (by omega) (fun c114 => ?_) (fun c114 => ?_)
              · exact absurd c114 (by omega)
              · refine aw_aload_n dX12_usesAt_117 rfl ?_
                refine aw_getr' (j := 12) dX12_usesAt_118 fX12_28 rfl (by assumption) rfl (by assumption) ?_
                refine aw_iload dX12_usesAt_121 rfl ?_
                refine aw_iald' dX12_usesAt_123 (by assumption) (by omega) (by first | decide | omega) g5 ?_
                refine aw_if_ne (tgt := 149) dX12_usesAt_124 rfl (by omega) (fun c124 => ?_) (fun c124 => ?_)
                · exact absurd c124 (by omega)
                · refine aw_aload_n dX12_usesAt_127 rfl ?_
                  refine aw_iload dX12_usesAt_128 rfl ?_
                  refine aw_invV_r dX12_usesAt_130 vX12_isPositionalStep kX12_229 rfl (ip) ⟨_, (by assumption), _, _, rfl⟩ rfl rfl (by decide) (by decide) (by decide) (Nat.le_of_ble_eq_true rfl) ?_
                  refine aw_if_ne (tgt := 149) dX12_usesAt_133 rfl (by decide) (fun c133 => ?_) (fun c133 => ?_)
                  · exact absurd rfl c133
                  · refine aw_aload_n dX12_usesAt_136 rfl ?_
                    refine aw_iload_n dX12_usesAt_137 rfl ?_
                    refine aw_iload_n dX12_usesAt_138 rfl ?_
                    refine aw_invV_e dX12_usesAt_139 vX12_joins kX12_288 rfl (KJ) ⟨_, (by assumption), _, _, rfl⟩ rfl rfl (by decide) (by decide) (by decide) (Nat.le_of_ble_eq_true rfl) (fun h1 hP9 => ?_)
                    have z1 := hP9
                    refine aw_if_eq (tgt := 149) dX12_usesAt_142 rfl (by omega) (fun c142 => ?_) (fun c142 => ?_)
                    · exact absurd c142 (by omega)
                    · refine aw_iconst dX12_usesAt_145 ?_
                      refine aw_goto (tgt := 150) dX12_usesAt_146 rfl ?_
                      exact aw_zreturn dX12_usesAt_150 rfl (by omega) (Or.inl rfl) ⟨rfl, z1⟩
        · rw [show f2 s u = none from if_neg (fun z => B z.2.1)]
          refine aw_iload dX12_usesAt_101 rfl ?_
          refine aw_iconst dX12_usesAt_103 ?_
          refine aw_ic_eq (tgt := 149) dX12_usesAt_104 rfl (by omega) (by omega) (fun c104 => ?_) (fun c104 => ?_)
          · exact absurd c104 (by omega)
          · refine aw_aload_n dX12_usesAt_107 rfl ?_
            refine aw_iload dX12_usesAt_108 rfl ?_
            refine aw_iconst dX12_usesAt_110 ?_
            refine aw_invV_r dX12_usesAt_111 vX12_isPlain kX12_282 rfl (KP) ⟨_, (by assumption), _, _, rfl⟩ rfl rfl (by decide) (by decide) (by decide) (Nat.le_of_ble_eq_true rfl) ?_
            refine aw_if_eq (tgt := 149) dX12_usesAt_114 rfl (by omega) (fun c114 => ?_) (fun c114 => ?_)
            · exact absurd c114 (by omega)
            · refine aw_aload_n dX12_usesAt_117 rfl ?_
              refine aw_getr' (j := 12) dX12_usesAt_118 fX12_28 rfl (by assumption) rfl (by assumption) ?_
              refine aw_iload dX12_usesAt_121 rfl ?_
              refine aw_iald' dX12_usesAt_123 (by assumption) (by omega) (by first | decide | omega) g5 ?_
              refine aw_if_ne (tgt := 149) dX12_usesAt_124 rfl (by omega) (fun c124 => ?_) (fun c124 => ?_)
              · refine aw_iconst dX12_usesAt_149 ?_
                exact aw_zreturn dX12_usesAt_150 rfl (by omega) (Or.inl rfl) ⟨rfl, rfl⟩
              · exact absurd c124 (by omega)
      · rw [if_neg A] at KP
        rw [show f2 s u = none from if_neg (fun z => A z.1)]
        refine aw_iload dX12_usesAt_101 rfl ?_
        refine aw_iconst dX12_usesAt_103 ?_
        refine aw_ic_eq (tgt := 149) dX12_usesAt_104 rfl (by omega) (by omega) (fun c104 => ?_) (fun c104 => ?_)
        · exact absurd c104 (by omega)
        · refine aw_aload_n dX12_usesAt_107 rfl ?_
          refine aw_iload dX12_usesAt_108 rfl ?_
          refine aw_iconst dX12_usesAt_110 ?_
          refine aw_invV_r dX12_usesAt_111 vX12_isPlain kX12_282 rfl (KP) ⟨_, (by assumption), _, _, rfl⟩ rfl rfl (by decide) (by decide) (by decide) (Nat.le_of_ble_eq_true rfl) ?_
          refine aw_if_eq (tgt := 149) dX12_usesAt_114 rfl (by omega) (fun c114 => ?_) (fun c114 => ?_)
          · refine aw_iconst dX12_usesAt_149 ?_
            exact aw_zreturn dX12_usesAt_150 rfl (by omega) (Or.inl rfl) ⟨rfl, rfl⟩
          · exact absurd c114 (by omega)
    refine Call.of (ls := [(0, vr (some a)), (1, vi 2), (2, vi b), (3, vi (i : Int))]) vX12_usesAt.1 (Nat.le_of_ble_eq_true rfl) rfl ?_
    refine aw_iload_n dX12_usesAt_0 rfl ?_
    refine aw_iload_n dX12_usesAt_1 rfl ?_
    refine aw_invS_r dX12_usesAt_2 sX12_stepAt kX12_165 rfl (KC) rfl rfl (by decide) (by decide) (by decide) (Nat.le_of_ble_eq_true rfl) ?_
    refine aw_istore (ls1 := [(4, _), (0, _), (1, _), (2, _), (3, _)]) dX12_usesAt_5 (by decide) rfl ?_
    refine aw_iload_n dX12_usesAt_7 rfl ?_
    refine aw_iconst dX12_usesAt_8 ?_
    refine aw_iadd dX12_usesAt_9 ?_
    refine aw_aload_n dX12_usesAt_10 rfl ?_
    refine aw_getr' (j := 12) dX12_usesAt_11 fX12_28 rfl (by assumption) rfl (by assumption) ?_
    refine aw_iload_n dX12_usesAt_14 rfl ?_
    refine aw_iconst dX12_usesAt_15 ?_
    refine aw_iadd dX12_usesAt_16 ?_
    refine aw_iald' dX12_usesAt_17 (by assumption) (by omega) (by first | decide | omega) g1 ?_
    refine aw_ic_ge (tgt := 31) dX12_usesAt_18 rfl (by omega) (by omega) (fun c18 => ?_) (fun c18 => ?_)
    · exact absurd c18 (by omega)
    · refine aw_iload_n dX12_usesAt_21 rfl ?_
      refine aw_iload_n dX12_usesAt_22 rfl ?_
      refine aw_iconst dX12_usesAt_23 ?_
      refine aw_iadd dX12_usesAt_24 ?_
      refine aw_invS_r dX12_usesAt_25 sX12_stepAt kX12_165 rfl (KD) rfl rfl (by decide) (by decide) (by decide) (Nat.le_of_ble_eq_true rfl) ?_
      refine aw_goto (tgt := 32) dX12_usesAt_28 rfl ?_
      refine aw_istore (ls1 := [(5, _), (4, _), (0, _), (1, _), (2, _), (3, _)]) dX12_usesAt_32 (by decide) rfl ?_
      refine aw_iload_n dX12_usesAt_34 rfl ?_
      refine aw_tableIn (off := 66) (tgt := 101) dX12_usesAt_35 (by omega) (by decide) (by decide) rfl rfl ?_
      refine aw_sub [0, 1, 2, 4, 5] rfl ?_
      exact L
theorem m_uA3 {γ : GG} {h : AH} {a : Nat} {b : Int} {t : TT} {i : Nat} (hM : shM h a) (hb : 1 ≤ b ∧ b + 1634 ≤ 6537) (hT : PT h a b t) {s : TS} (hs : t.2[i]? = some s) : Call γ mX12_usesAt 3 0 0 [vr (some a), vi 3, vi b, vi (i : Int)] h (rA9 h a b t (match t.2[i + 1]? with | none => none | some u => (f3 s u).map (fun x => (t.2.set i x).eraseIdx (i + 1)))) := by
  obtain ⟨hka, rq, kq⟩ := hM.q
  have hi := lt_of_get hs
  have l8 := hT.2.1
  have g1 := hT.1.2.1
  obtain ⟨gs, os, -⟩ := PT_st hT hs
  have KC := m_stepAt (γ := γ) (h := h) (p := b) (k := (i : Int))
  cases hu : t.2[i + 1]? with
  | none =>
    have hl := List.getElem?_eq_none_iff.mp hu
    refine Call.of (ls := [(0, vr (some a)), (1, vi 3), (2, vi b), (3, vi (i : Int))]) vX12_usesAt.1 (Nat.le_of_ble_eq_true rfl) rfl ?_
    refine aw_iload_n dX12_usesAt_0 rfl ?_
    refine aw_iload_n dX12_usesAt_1 rfl ?_
    refine aw_invS_r dX12_usesAt_2 sX12_stepAt kX12_165 rfl (KC) rfl rfl (by decide) (by decide) (by decide) (Nat.le_of_ble_eq_true rfl) ?_
    refine aw_istore (ls1 := [(4, _), (0, _), (1, _), (2, _), (3, _)]) dX12_usesAt_5 (by decide) rfl ?_
    refine aw_iload_n dX12_usesAt_7 rfl ?_
    refine aw_iconst dX12_usesAt_8 ?_
    refine aw_iadd dX12_usesAt_9 ?_
    refine aw_aload_n dX12_usesAt_10 rfl ?_
    refine aw_getr' (j := 12) dX12_usesAt_11 fX12_28 rfl (by assumption) rfl (by assumption) ?_
    refine aw_iload_n dX12_usesAt_14 rfl ?_
    refine aw_iconst dX12_usesAt_15 ?_
    refine aw_iadd dX12_usesAt_16 ?_
    refine aw_iald' dX12_usesAt_17 (by assumption) (by omega) (by first | decide | omega) g1 ?_
    refine aw_ic_ge (tgt := 31) dX12_usesAt_18 rfl (by omega) (by omega) (fun c18 => ?_) (fun c18 => ?_)
    · refine aw_iconst dX12_usesAt_31 ?_
      refine aw_istore (ls1 := [(5, _), (4, _), (0, _), (1, _), (2, _), (3, _)]) dX12_usesAt_32 (by decide) rfl ?_
      refine aw_iload_n dX12_usesAt_34 rfl ?_
      refine aw_tableIn (off := 116) (tgt := 151) dX12_usesAt_35 (by omega) (by decide) (by decide) rfl rfl ?_
      refine aw_iload dX12_usesAt_151 rfl ?_
      refine aw_iconst dX12_usesAt_153 ?_
      refine aw_ic_eq (tgt := 204) dX12_usesAt_154 rfl (by omega) (by omega) (fun c154 => ?_) (fun c154 => ?_)
      · refine aw_iconst dX12_usesAt_204 ?_
        exact aw_zreturn dX12_usesAt_205 rfl (by omega) (Or.inl rfl) ⟨rfl, rfl⟩
      · exact absurd c154 (by omega)
    · exact absurd c18 (by omega)
  | some u =>
    have hl := lt_of_get hu
    obtain ⟨gu, ou, -⟩ := PT_st hT hu
    rw [show ((i + 1 : Nat) : Int) = (i : Int) + 1 by omega] at gu
    have KD := m_stepAt (γ := γ) (h := h) (p := b) (k := (i : Int) + 1)
    have ip := m_isPositionalStep (γ := γ) hM ou (by omega) gu
    have L : AW γ mX12_usesAt 3 0 0 151 [(5, vi (b + 2 + 204 * ((i : Int) + 1))), (4, vi (b + 2 + 204 * (i : Int))), (0, vr (some a)), (2, vi b), (3, vi (i : Int))] [] h (rA9 h a b t ((f3 s u).map (fun x => (t.2.set i x).eraseIdx (i + 1)))) := by
      have KP := m_isPlain (γ := γ) (x := 3) hM (by omega) (by decide) os gs
      have g5 := gu.1
      have o5 := ou.1
      obtain ⟨p1, p2, p3, p4⟩ := o5
      have KI := m_in (γ := γ) (h := h) (v := u.1.1) (l := 2) (m := 3) (by omega) (by omega) (by omega)
      by_cases A : s.1 = (3, 8) ∧ s.2.length = 0
      · rw [if_pos A] at KP
        by_cases B : 2 ≤ u.1.1 ∧ u.1.1 ≤ 3
        · rw [if_pos B] at KI
          cases C : isPosS u with
          | true =>
            rw [C] at ip
            rw [show f3 s u = none from if_neg (fun z => by rw [C] at z; exact absurd z.2.2 (by decide))]
            refine aw_iload dX12_usesAt_151 rfl ?_
            refine aw_iconst dX12_usesAt_153 ?_
            refine aw_ic_eq (tgt := 204) dX12_usesAt_154 rfl (by omega) (by omega) (fun c154 => ?_) (fun c154 => ?_)
            · exact absurd c154 (by omega)
            · refine aw_aload_n dX12_usesAt_157 rfl ?_
              refine aw_iload dX12_usesAt_158 rfl ?_
              refine aw_iconst dX12_usesAt_160 ?_
              refine aw_invV_r dX12_usesAt_161 vX12_isPlain kX12_282 rfl (KP) ⟨_, (by assumption), _, _, rfl⟩ rfl rfl (by decide) (by decide) (by decide) (Nat.le_of_ble_eq_true rfl) ?_
              refine aw_if_eq (tgt := 204) dX12_usesAt_164 rfl (by omega) (fun c164 => ?_) (fun c164 => ?_)
              · exact absurd c164 (by omega)
              · refine aw_aload_n dX12_usesAt_167 rfl ?_
                refine aw_getr' (j := 12) dX12_usesAt_168 fX12_28 rfl (by assumption) rfl (by assumption) ?_
                refine aw_iload dX12_usesAt_171 rfl ?_
                refine aw_iald' dX12_usesAt_173 (by assumption) (by omega) (by first | decide | omega) g5 ?_
                refine aw_iconst dX12_usesAt_174 ?_
                refine aw_iconst dX12_usesAt_175 ?_
                refine aw_invS_r dX12_usesAt_176 sX12_in kX12_69 rfl (KI) rfl rfl (by decide) (by decide) (by decide) (Nat.le_of_ble_eq_true rfl) ?_
                refine aw_if_eq (tgt := 204) dX12_usesAt_179 rfl (by omega) (fun c179 => ?_) (fun c179 => ?_)
                · exact absurd c179 (by omega)
                · refine aw_aload_n dX12_usesAt_182 rfl ?_
                  refine aw_iload dX12_usesAt_183 rfl ?_
                  refine aw_invV_r dX12_usesAt_185 vX12_isPositionalStep kX12_229 rfl (ip) ⟨_, (by assumption), _, _, rfl⟩ rfl rfl (by decide) (by decide) (by decide) (Nat.le_of_ble_eq_true rfl) ?_
                  refine aw_if_ne (tgt := 204) dX12_usesAt_188 rfl (by decide) (fun c188 => ?_) (fun c188 => ?_)
                  · refine aw_iconst dX12_usesAt_204 ?_
                    exact aw_zreturn dX12_usesAt_205 rfl (by omega) (Or.inl rfl) ⟨rfl, rfl⟩
                  · exact absurd c188 (by decide)
          | false =>
            rw [C] at ip
            rw [show f3 s u = some u from if_pos ⟨A, by omega, C⟩]
            have KJ := m_removes (γ := γ) hM hb hT hi
            rw [er_same hu] at KJ
            refine aw_iload dX12_usesAt_151 rfl ?_
            refine aw_iconst dX12_usesAt_153 ?_
            refine aw_ic_eq (tgt := 204) dX12_usesAt_154 rfl (by omega) (by omega) (fun c154 => ?_) (fun c154 => ?_)
            · exact absurd c154 (by omega)
            · refine aw_aload_n dX12_usesAt_157 rfl ?_
              refine aw_iload dX12_usesAt_158 rfl ?_
              refine aw_iconst dX12_usesAt_160 ?_
              refine aw_invV_r dX12_usesAt_161 vX12_isPlain kX12_282 rfl (KP) ⟨_, (by assumption), _, _, rfl⟩ rfl rfl (by decide) (by decide) (by decide) (Nat.le_of_ble_eq_true rfl) ?_
              refine aw_if_eq (tgt := 204) dX12_usesAt_164 rfl (by omega) (fun c164 => ?_) (fun c164 => ?_)
              · exact absurd c164 (by omega)
              · refine aw_aload_n dX12_usesAt_167 rfl ?_
                refine aw_getr' (j := 12) dX12_usesAt_168 fX12_28 rfl (by assumption) rfl (by assumption) ?_
                refine aw_iload dX12_usesAt_171 rfl ?_
                refine aw_iald' dX12_usesAt_173 (by assumption) (by omega) (by first | decide | omega) g5 ?_
                refine aw_iconst dX12_usesAt_174 ?_
                refine aw_iconst dX12_usesAt_175 ?_
                refine aw_invS_r dX12_usesAt_176 sX12_in kX12_69 rfl (KI) rfl rfl (by decide) (by decide) (by decide) (Nat.le_of_ble_eq_true rfl) ?_
                refine aw_if_eq (tgt := 204) dX12_usesAt_179 rfl (by omega) (fun c179 => ?_) (fun c179 => ?_)
                · exact absurd c179 (by omega)
                · refine aw_aload_n dX12_usesAt_182 rfl ?_
                  refine aw_iload dX12_usesAt_183 rfl ?_
                  refine aw_invV_r dX12_usesAt_185 vX12_isPositionalStep kX12_229 rfl (ip) ⟨_, (by assumption), _, _, rfl⟩ rfl rfl (by decide) (by decide) (by decide) (Nat.le_of_ble_eq_true rfl) ?_
                  refine aw_if_ne (tgt := 204) dX12_usesAt_188 rfl (by decide) (fun c188 => ?_) (fun c188 => ?_)
                  · exact absurd rfl c188
                  · refine aw_aload_n dX12_usesAt_191 rfl ?_
                    refine aw_iload_n dX12_usesAt_192 rfl ?_
                    refine aw_iload_n dX12_usesAt_193 rfl ?_
                    refine aw_invV_e dX12_usesAt_194 vX12_removes kX12_285 rfl (KJ) ⟨_, (by assumption), _, _, rfl⟩ rfl rfl (by decide) (by decide) (by decide) (Nat.le_of_ble_eq_true rfl) (fun h1 hP9 => ?_)
                    have z1 := hP9
                    refine aw_if_eq (tgt := 204) dX12_usesAt_197 rfl (by omega) (fun c197 => ?_) (fun c197 => ?_)
                    · exact absurd c197 (by omega)
                    · refine aw_iconst dX12_usesAt_200 ?_
                      refine aw_goto (tgt := 205) dX12_usesAt_201 rfl ?_
                      exact aw_zreturn dX12_usesAt_205 rfl (by omega) (Or.inl rfl) ⟨rfl, z1⟩
        · rw [if_neg B] at KI
          rw [show f3 s u = none from if_neg (fun z => B (by have := z.2.1; omega))]
          refine aw_iload dX12_usesAt_151 rfl ?_
          refine aw_iconst dX12_usesAt_153 ?_
          refine aw_ic_eq (tgt := 204) dX12_usesAt_154 rfl (by omega) (by omega) (fun c154 => ?_) (fun c154 => ?_)
          · exact absurd c154 (by omega)
          · refine aw_aload_n dX12_usesAt_157 rfl ?_
            refine aw_iload dX12_usesAt_158 rfl ?_
            refine aw_iconst dX12_usesAt_160 ?_
            refine aw_invV_r dX12_usesAt_161 vX12_isPlain kX12_282 rfl (KP) ⟨_, (by assumption), _, _, rfl⟩ rfl rfl (by decide) (by decide) (by decide) (Nat.le_of_ble_eq_true rfl) ?_
            refine aw_if_eq (tgt := 204) dX12_usesAt_164 rfl (by omega) (fun c164 => ?_) (fun c164 => ?_)
            · exact absurd c164 (by omega)
            · refine aw_aload_n dX12_usesAt_167 rfl ?_
              refine aw_getr' (j := 12) dX12_usesAt_168 fX12_28 rfl (by assumption) rfl (by assumption) ?_
              refine aw_iload dX12_usesAt_171 rfl ?_
              refine aw_iald' dX12_usesAt_173 (by assumption) (by omega) (by first | decide | omega) g5 ?_
              refine aw_iconst dX12_usesAt_174 ?_
              refine aw_iconst dX12_usesAt_175 ?_
              refine aw_invS_r dX12_usesAt_176 sX12_in kX12_69 rfl (KI) rfl rfl (by decide) (by decide) (by decide) (Nat.le_of_ble_eq_true rfl) ?_
              refine aw_if_eq (tgt := 204) dX12_usesAt_179 rfl (by omega) (fun c179 => ?_) (fun c179 => ?_)
              · refine aw_iconst dX12_usesAt_204 ?_
                exact aw_zreturn dX12_usesAt_205 rfl (by omega) (Or.inl rfl) ⟨rfl, rfl⟩
              · exact absurd c179 (by omega)
      · rw [if_neg A] at KP
        rw [show f3 s u = none from if_neg (fun z => A z.1)]
        refine aw_iload dX12_usesAt_151 rfl ?_
        refine aw_iconst dX12_usesAt_153 ?_
        refine aw_ic_eq (tgt := 204) dX12_usesAt_154 rfl (by omega) (by omega) (fun c154 => ?_) (fun c154 => ?_)
        · exact absurd c154 (by omega)
        · refine aw_aload_n dX12_usesAt_157 rfl ?_
          refine aw_iload dX12_usesAt_158 rfl ?_
          refine aw_iconst dX12_usesAt_160 ?_
          refine aw_invV_r dX12_usesAt_161 vX12_isPlain kX12_282 rfl (KP) ⟨_, (by assumption), _, _, rfl⟩ rfl rfl (by decide) (by decide) (by decide) (Nat.le_of_ble_eq_true rfl) ?_
          refine aw_if_eq (tgt := 204) dX12_usesAt_164 rfl (by omega) (fun c164 => ?_) (fun c164 => ?_)
          · refine aw_iconst dX12_usesAt_204 ?_
            exact aw_zreturn dX12_usesAt_205 rfl (by omega) (Or.inl rfl) ⟨rfl, rfl⟩
          · exact absurd c164 (by omega)
    refine Call.of (ls := [(0, vr (some a)), (1, vi 3), (2, vi b), (3, vi (i : Int))]) vX12_usesAt.1 (Nat.le_of_ble_eq_true rfl) rfl ?_
    refine aw_iload_n dX12_usesAt_0 rfl ?_
    refine aw_iload_n dX12_usesAt_1 rfl ?_
    refine aw_invS_r dX12_usesAt_2 sX12_stepAt kX12_165 rfl (KC) rfl rfl (by decide) (by decide) (by decide) (Nat.le_of_ble_eq_true rfl) ?_
    refine aw_istore (ls1 := [(4, _), (0, _), (1, _), (2, _), (3, _)]) dX12_usesAt_5 (by decide) rfl ?_
    refine aw_iload_n dX12_usesAt_7 rfl ?_
    refine aw_iconst dX12_usesAt_8 ?_
    refine aw_iadd dX12_usesAt_9 ?_
    refine aw_aload_n dX12_usesAt_10 rfl ?_
    refine aw_getr' (j := 12) dX12_usesAt_11 fX12_28 rfl (by assumption) rfl (by assumption) ?_
    refine aw_iload_n dX12_usesAt_14 rfl ?_
    refine aw_iconst dX12_usesAt_15 ?_
    refine aw_iadd dX12_usesAt_16 ?_
    refine aw_iald' dX12_usesAt_17 (by assumption) (by omega) (by first | decide | omega) g1 ?_
    refine aw_ic_ge (tgt := 31) dX12_usesAt_18 rfl (by omega) (by omega) (fun c18 => ?_) (fun c18 => ?_)
    · exact absurd c18 (by omega)
    · refine aw_iload_n dX12_usesAt_21 rfl ?_
      refine aw_iload_n dX12_usesAt_22 rfl ?_
      refine aw_iconst dX12_usesAt_23 ?_
      refine aw_iadd dX12_usesAt_24 ?_
      refine aw_invS_r dX12_usesAt_25 sX12_stepAt kX12_165 rfl (KD) rfl rfl (by decide) (by decide) (by decide) (Nat.le_of_ble_eq_true rfl) ?_
      refine aw_goto (tgt := 32) dX12_usesAt_28 rfl ?_
      refine aw_istore (ls1 := [(5, _), (4, _), (0, _), (1, _), (2, _), (3, _)]) dX12_usesAt_32 (by decide) rfl ?_
      refine aw_iload_n dX12_usesAt_34 rfl ?_
      refine aw_tableIn (off := 116) (tgt := 151) dX12_usesAt_35 (by omega) (by decide) (by decide) rfl rfl ?_
      refine aw_sub [0, 1, 2, 4, 5] rfl ?_
      exact L
theorem m_uA4 {γ : GG} {h : AH} {a : Nat} {b : Int} {t : TT} {i : Nat} (hM : shM h a) (hb : 1 ≤ b ∧ b + 1634 ≤ 6537) (hT : PT h a b t) {s : TS} (hs : t.2[i]? = some s) : Call γ mX12_usesAt 3 0 0 [vr (some a), vi 4, vi b, vi (i : Int)] h (rA9 h a b t (match t.2[i + 1]? with | none => none | some u => (f4 s u).map (fun x => (t.2.set i x).eraseIdx (i + 1)))) := by
  obtain ⟨hka, rq, kq⟩ := hM.q
  have hi := lt_of_get hs
  have l8 := hT.2.1
  have g1 := hT.1.2.1
  obtain ⟨gs, os, -⟩ := PT_st hT hs
  have KC := m_stepAt (γ := γ) (h := h) (p := b) (k := (i : Int))
  cases hu : t.2[i + 1]? with
  | none =>
    have hl := List.getElem?_eq_none_iff.mp hu
    refine Call.of (ls := [(0, vr (some a)), (1, vi 4), (2, vi b), (3, vi (i : Int))]) vX12_usesAt.1 (Nat.le_of_ble_eq_true rfl) rfl ?_
    refine aw_iload_n dX12_usesAt_0 rfl ?_
    refine aw_iload_n dX12_usesAt_1 rfl ?_
    refine aw_invS_r dX12_usesAt_2 sX12_stepAt kX12_165 rfl (KC) rfl rfl (by decide) (by decide) (by decide) (Nat.le_of_ble_eq_true rfl) ?_
    refine aw_istore (ls1 := [(4, _), (0, _), (1, _), (2, _), (3, _)]) dX12_usesAt_5 (by decide) rfl ?_
    refine aw_iload_n dX12_usesAt_7 rfl ?_
    refine aw_iconst dX12_usesAt_8 ?_
    refine aw_iadd dX12_usesAt_9 ?_
    refine aw_aload_n dX12_usesAt_10 rfl ?_
    refine aw_getr' (j := 12) dX12_usesAt_11 fX12_28 rfl (by assumption) rfl (by assumption) ?_
    refine aw_iload_n dX12_usesAt_14 rfl ?_
    refine aw_iconst dX12_usesAt_15 ?_
    refine aw_iadd dX12_usesAt_16 ?_
    refine aw_iald' dX12_usesAt_17 (by assumption) (by omega) (by first | decide | omega) g1 ?_
    refine aw_ic_ge (tgt := 31) dX12_usesAt_18 rfl (by omega) (by omega) (fun c18 => ?_) (fun c18 => ?_)
    · refine aw_iconst dX12_usesAt_31 ?_
      refine aw_istore (ls1 := [(5, _), (4, _), (0, _), (1, _), (2, _), (3, _)]) dX12_usesAt_32 (by decide) rfl ?_
      refine aw_iload_n dX12_usesAt_34 rfl ?_
      refine aw_tableIn (off := 171) (tgt := 206) dX12_usesAt_35 (by omega) (by decide) (by decide) rfl rfl ?_
      refine aw_iload dX12_usesAt_206 rfl ?_
      refine aw_iconst dX12_usesAt_208 ?_
      refine aw_ic_eq (tgt := 258) dX12_usesAt_209 rfl (by omega) (by omega) (fun c209 => ?_) (fun c209 => ?_)
      · refine aw_iconst dX12_usesAt_258 ?_
        exact aw_zreturn dX12_usesAt_259 rfl (by omega) (Or.inl rfl) ⟨rfl, rfl⟩
      · exact absurd c209 (by omega)
    · exact absurd c18 (by omega)
  | some u =>
    have hl := lt_of_get hu
    obtain ⟨gu, ou, -⟩ := PT_st hT hu
    rw [show ((i + 1 : Nat) : Int) = (i : Int) + 1 by omega] at gu
    have KD := m_stepAt (γ := γ) (h := h) (p := b) (k := (i : Int) + 1)
    have ip := m_isPositionalStep (γ := γ) hM ou (by omega) gu
    have L : AW γ mX12_usesAt 3 0 0 206 [(5, vi (b + 2 + 204 * ((i : Int) + 1))), (4, vi (b + 2 + 204 * (i : Int))), (0, vr (some a)), (2, vi b), (3, vi (i : Int))] [] h (rA9 h a b t ((f4 s u).map (fun x => (t.2.set i x).eraseIdx (i + 1)))) := by
      have KP := m_isPlain (γ := γ) (x := 6) hM (by omega) (by decide) ou gu
      have g5 := gs.1
      have g6 := gs.2.2.1
      have o5 := os.1
      have o6 := os.2.1
      obtain ⟨p1, p2, p3, p4⟩ := o5
      by_cases B : s.1.1 = 0
      · by_cases C : s.2.length = 0
        · by_cases A : u.1 = (6, 8) ∧ u.2.length = 0
          · rw [if_pos A] at KP
            rw [show f4 s u = some ((1, 8), [[[c4 s.1.2]]]) from if_pos ⟨C, B, A⟩]
            have KJ := m_asks (γ := γ) hM hb hT hs hl
            refine aw_iload dX12_usesAt_206 rfl ?_
            refine aw_iconst dX12_usesAt_208 ?_
            refine aw_ic_eq (tgt := 258) dX12_usesAt_209 rfl (by omega) (by omega) (fun c209 => ?_) (fun c209 => ?_)
            · exact absurd c209 (by omega)
            · refine aw_aload_n dX12_usesAt_212 rfl ?_
              refine aw_getr' (j := 12) dX12_usesAt_213 fX12_28 rfl (by assumption) rfl (by assumption) ?_
              refine aw_iload dX12_usesAt_216 rfl ?_
              refine aw_iald' dX12_usesAt_218 (by assumption) (by omega) (by first | decide | omega) g5 ?_
              refine aw_if_ne (tgt := 258) dX12_usesAt_219 rfl (by omega) (fun c219 => ?_) (fun c219 => ?_)
              · exact absurd c219 (by omega)
              · refine aw_aload_n dX12_usesAt_222 rfl ?_
                refine aw_getr' (j := 12) dX12_usesAt_223 fX12_28 rfl (by assumption) rfl (by assumption) ?_
                refine aw_iload dX12_usesAt_226 rfl ?_
                refine aw_iconst dX12_usesAt_228 ?_
                refine aw_iadd dX12_usesAt_229 ?_
                refine aw_iald' dX12_usesAt_230 (by assumption) (by omega) (by first | decide | omega) g6 ?_
                refine aw_if_ne (tgt := 258) dX12_usesAt_231 rfl (by omega) (fun c231 => ?_) (fun c231 => ?_)
                · exact absurd c231 (by omega)
                · refine aw_aload_n dX12_usesAt_234 rfl ?_
                  refine aw_iload dX12_usesAt_235 rfl ?_
                  refine aw_bipush dX12_usesAt_237 rfl ?_
                  refine aw_invV_r dX12_usesAt_239 vX12_isPlain kX12_282 rfl (KP) ⟨_, (by assumption), _, _, rfl⟩ rfl rfl (by decide) (by decide) (by decide) (Nat.le_of_ble_eq_true rfl) ?_
                  refine aw_if_eq (tgt := 258) dX12_usesAt_242 rfl (by omega) (fun c242 => ?_) (fun c242 => ?_)
                  · exact absurd c242 (by omega)
                  · refine aw_aload_n dX12_usesAt_245 rfl ?_
                    refine aw_iload_n dX12_usesAt_246 rfl ?_
                    refine aw_iload_n dX12_usesAt_247 rfl ?_
                    refine aw_invV_e dX12_usesAt_248 vX12_asks kX12_291 rfl (KJ) ⟨_, (by assumption), _, _, rfl⟩ rfl rfl (by decide) (by decide) (by decide) (Nat.le_of_ble_eq_true rfl) (fun h1 hP9 => ?_)
                    have z1 := hP9
                    refine aw_if_eq (tgt := 258) dX12_usesAt_251 rfl (by omega) (fun c251 => ?_) (fun c251 => ?_)
                    · exact absurd c251 (by omega)
                    · refine aw_iconst dX12_usesAt_254 ?_
                      refine aw_goto (tgt := 259) dX12_usesAt_255 rfl ?_
                      exact aw_zreturn dX12_usesAt_259 rfl (by omega) (Or.inl rfl) ⟨rfl, z1⟩
          · rw [if_neg A] at KP
            rw [show f4 s u = none from if_neg (fun z => A z.2.2)]
            refine aw_iload dX12_usesAt_206 rfl ?_
            refine aw_iconst dX12_usesAt_208 ?_
            refine aw_ic_eq (tgt := 258) dX12_usesAt_209 rfl (by omega) (by omega) (fun c209 => ?_) (fun c209 => ?_)
            · exact absurd c209 (by omega)
            · refine aw_aload_n dX12_usesAt_212 rfl ?_
              refine aw_getr' (j := 12) dX12_usesAt_213 fX12_28 rfl (by assumption) rfl (by assumption) ?_
              refine aw_iload dX12_usesAt_216 rfl ?_
              refine aw_iald' dX12_usesAt_218 (by assumption) (by omega) (by first | decide | omega) g5 ?_
              refine aw_if_ne (tgt := 258) dX12_usesAt_219 rfl (by omega) (fun c219 => ?_) (fun c219 => ?_)
              · exact absurd c219 (by omega)
              · refine aw_aload_n dX12_usesAt_222 rfl ?_
                refine aw_getr' (j := 12) dX12_usesAt_223 fX12_28 rfl (by assumption) rfl (by assumption) ?_
                refine aw_iload dX12_usesAt_226 rfl ?_
                refine aw_iconst dX12_usesAt_228 ?_
                refine aw_iadd dX12_usesAt_229 ?_
                refine aw_iald' dX12_usesAt_230 (by assumption) (by omega) (by first | decide | omega) g6 ?_
                refine aw_if_ne (tgt := 258) dX12_usesAt_231 rfl (by omega) (fun c231 => ?_) (fun c231 => ?_)
                · exact absurd c231 (by omega)
                · refine aw_aload_n dX12_usesAt_234 rfl ?_
                  refine aw_iload dX12_usesAt_235 rfl ?_
                  refine aw_bipush dX12_usesAt_237 rfl ?_
                  refine aw_invV_r dX12_usesAt_239 vX12_isPlain kX12_282 rfl (KP) ⟨_, (by assumption), _, _, rfl⟩ rfl rfl (by decide) (by decide) (by decide) (Nat.le_of_ble_eq_true rfl) ?_
                  refine aw_if_eq (tgt := 258) dX12_usesAt_242 rfl (by omega) (fun c242 => ?_) (fun c242 => ?_)
                  · refine aw_iconst dX12_usesAt_258 ?_
                    exact aw_zreturn dX12_usesAt_259 rfl (by omega) (Or.inl rfl) ⟨rfl, rfl⟩
                  · exact absurd c242 (by omega)
        · rw [show f4 s u = none from if_neg (fun z => C z.1)]
          refine aw_iload dX12_usesAt_206 rfl ?_
          refine aw_iconst dX12_usesAt_208 ?_
          refine aw_ic_eq (tgt := 258) dX12_usesAt_209 rfl (by omega) (by omega) (fun c209 => ?_) (fun c209 => ?_)
          · exact absurd c209 (by omega)
          · refine aw_aload_n dX12_usesAt_212 rfl ?_
            refine aw_getr' (j := 12) dX12_usesAt_213 fX12_28 rfl (by assumption) rfl (by assumption) ?_
            refine aw_iload dX12_usesAt_216 rfl ?_
            refine aw_iald' dX12_usesAt_218 (by assumption) (by omega) (by first | decide | omega) g5 ?_
            refine aw_if_ne (tgt := 258) dX12_usesAt_219 rfl (by omega) (fun c219 => ?_) (fun c219 => ?_)
            · exact absurd c219 (by omega)
            · refine aw_aload_n dX12_usesAt_222 rfl ?_
              refine aw_getr' (j := 12) dX12_usesAt_223 fX12_28 rfl (by assumption) rfl (by assumption) ?_
              refine aw_iload dX12_usesAt_226 rfl ?_
              refine aw_iconst dX12_usesAt_228 ?_
              refine aw_iadd dX12_usesAt_229 ?_
              refine aw_iald' dX12_usesAt_230 (by assumption) (by omega) (by first | decide | omega) g6 ?_
              refine aw_if_ne (tgt := 258) dX12_usesAt_231 rfl (by omega) (fun c231 => ?_) (fun c231 => ?_)
              · refine aw_iconst dX12_usesAt_258 ?_
                exact aw_zreturn dX12_usesAt_259 rfl (by omega) (Or.inl rfl) ⟨rfl, rfl⟩
              · exact absurd c231 (by omega)
      · rw [show f4 s u = none from if_neg (fun z => B z.2.1)]
        refine aw_iload dX12_usesAt_206 rfl ?_
        refine aw_iconst dX12_usesAt_208 ?_
        refine aw_ic_eq (tgt := 258) dX12_usesAt_209 rfl (by omega) (by omega) (fun c209 => ?_) (fun c209 => ?_)
        · exact absurd c209 (by omega)
        · refine aw_aload_n dX12_usesAt_212 rfl ?_
          refine aw_getr' (j := 12) dX12_usesAt_213 fX12_28 rfl (by assumption) rfl (by assumption) ?_
          refine aw_iload dX12_usesAt_216 rfl ?_
          refine aw_iald' dX12_usesAt_218 (by assumption) (by omega) (by first | decide | omega) g5 ?_
          refine aw_if_ne (tgt := 258) dX12_usesAt_219 rfl (by omega) (fun c219 => ?_) (fun c219 => ?_)
          · refine aw_iconst dX12_usesAt_258 ?_
            exact aw_zreturn dX12_usesAt_259 rfl (by omega) (Or.inl rfl) ⟨rfl, rfl⟩
          · exact absurd c219 (by omega)
    refine Call.of (ls := [(0, vr (some a)), (1, vi 4), (2, vi b), (3, vi (i : Int))]) vX12_usesAt.1 (Nat.le_of_ble_eq_true rfl) rfl ?_
    refine aw_iload_n dX12_usesAt_0 rfl ?_
    refine aw_iload_n dX12_usesAt_1 rfl ?_
    refine aw_invS_r dX12_usesAt_2 sX12_stepAt kX12_165 rfl (KC) rfl rfl (by decide) (by decide) (by decide) (Nat.le_of_ble_eq_true rfl) ?_
    refine aw_istore (ls1 := [(4, _), (0, _), (1, _), (2, _), (3, _)]) dX12_usesAt_5 (by decide) rfl ?_
    refine aw_iload_n dX12_usesAt_7 rfl ?_
    refine aw_iconst dX12_usesAt_8 ?_
    refine aw_iadd dX12_usesAt_9 ?_
    refine aw_aload_n dX12_usesAt_10 rfl ?_
    refine aw_getr' (j := 12) dX12_usesAt_11 fX12_28 rfl (by assumption) rfl (by assumption) ?_
    refine aw_iload_n dX12_usesAt_14 rfl ?_
    refine aw_iconst dX12_usesAt_15 ?_
    refine aw_iadd dX12_usesAt_16 ?_
    refine aw_iald' dX12_usesAt_17 (by assumption) (by omega) (by first | decide | omega) g1 ?_
    refine aw_ic_ge (tgt := 31) dX12_usesAt_18 rfl (by omega) (by omega) (fun c18 => ?_) (fun c18 => ?_)
    · exact absurd c18 (by omega)
    · refine aw_iload_n dX12_usesAt_21 rfl ?_
      refine aw_iload_n dX12_usesAt_22 rfl ?_
      refine aw_iconst dX12_usesAt_23 ?_
      refine aw_iadd dX12_usesAt_24 ?_
      refine aw_invS_r dX12_usesAt_25 sX12_stepAt kX12_165 rfl (KD) rfl rfl (by decide) (by decide) (by decide) (Nat.le_of_ble_eq_true rfl) ?_
      refine aw_goto (tgt := 32) dX12_usesAt_28 rfl ?_
      refine aw_istore (ls1 := [(5, _), (4, _), (0, _), (1, _), (2, _), (3, _)]) dX12_usesAt_32 (by decide) rfl ?_
      refine aw_iload_n dX12_usesAt_34 rfl ?_
      refine aw_tableIn (off := 171) (tgt := 206) dX12_usesAt_35 (by omega) (by decide) (by decide) rfl rfl ?_
      refine aw_sub [0, 1, 2, 4, 5] rfl ?_
      exact L
theorem m_uA5 {γ : GG} {h : AH} {a : Nat} {b : Int} {t : TT} {i : Nat} (hM : shM h a) (hb : 1 ≤ b ∧ b + 1634 ≤ 6537) (hT : PT h a b t) {s : TS} (hs : t.2[i]? = some s) : Call γ mX12_usesAt 3 0 0 [vr (some a), vi 5, vi b, vi (i : Int)] h (rA9 h a b t (match t.2[i + 1]? with | none => none | some u => (f5 s u).map (fun x => (t.2.set i x).eraseIdx (i + 1)))) := by
  obtain ⟨hka, rq, kq⟩ := hM.q
  have hi := lt_of_get hs
  have l8 := hT.2.1
  have g1 := hT.1.2.1
  obtain ⟨gs, os, -⟩ := PT_st hT hs
  have KC := m_stepAt (γ := γ) (h := h) (p := b) (k := (i : Int))
  cases hu : t.2[i + 1]? with
  | none =>
    have hl := List.getElem?_eq_none_iff.mp hu
    refine Call.of (ls := [(0, vr (some a)), (1, vi 5), (2, vi b), (3, vi (i : Int))]) vX12_usesAt.1 (Nat.le_of_ble_eq_true rfl) rfl ?_
    refine aw_iload_n dX12_usesAt_0 rfl ?_
    refine aw_iload_n dX12_usesAt_1 rfl ?_
    refine aw_invS_r dX12_usesAt_2 sX12_stepAt kX12_165 rfl (KC) rfl rfl (by decide) (by decide) (by decide) (Nat.le_of_ble_eq_true rfl) ?_
    refine aw_istore (ls1 := [(4, _), (0, _), (1, _), (2, _), (3, _)]) dX12_usesAt_5 (by decide) rfl ?_
    refine aw_iload_n dX12_usesAt_7 rfl ?_
    refine aw_iconst dX12_usesAt_8 ?_
    refine aw_iadd dX12_usesAt_9 ?_
    refine aw_aload_n dX12_usesAt_10 rfl ?_
    refine aw_getr' (j := 12) dX12_usesAt_11 fX12_28 rfl (by assumption) rfl (by assumption) ?_
    refine aw_iload_n dX12_usesAt_14 rfl ?_
    refine aw_iconst dX12_usesAt_15 ?_
    refine aw_iadd dX12_usesAt_16 ?_
    refine aw_iald' dX12_usesAt_17 (by assumption) (by omega) (by first | decide | omega) g1 ?_
    refine aw_ic_ge (tgt := 31) dX12_usesAt_18 rfl (by omega) (by omega) (fun c18 => ?_) (fun c18 => ?_)
    · refine aw_iconst dX12_usesAt_31 ?_
      refine aw_istore (ls1 := [(5, _), (4, _), (0, _), (1, _), (2, _), (3, _)]) dX12_usesAt_32 (by decide) rfl ?_
      refine aw_iload_n dX12_usesAt_34 rfl ?_
      refine aw_tableOut (tgt := 260) dX12_usesAt_35 (by omega) (Or.inr (by decide)) rfl ?_
      refine aw_iload dX12_usesAt_260 rfl ?_
      refine aw_iconst dX12_usesAt_262 ?_
      refine aw_ic_eq (tgt := 321) dX12_usesAt_263 rfl (by omega) (by omega) (fun c263 => ?_) (fun c263 => ?_)
      · refine aw_iconst dX12_usesAt_321 ?_
        exact aw_zreturn dX12_usesAt_322 rfl (by omega) (Or.inl rfl) ⟨rfl, rfl⟩
      · exact absurd c263 (by omega)
    · exact absurd c18 (by omega)
  | some u =>
    have hl := lt_of_get hu
    obtain ⟨gu, ou, -⟩ := PT_st hT hu
    rw [show ((i + 1 : Nat) : Int) = (i : Int) + 1 by omega] at gu
    have KD := m_stepAt (γ := γ) (h := h) (p := b) (k := (i : Int) + 1)
    have ip := m_isPositionalStep (γ := γ) hM ou (by omega) gu
    have L : AW γ mX12_usesAt 3 0 0 260 [(5, vi (b + 2 + 204 * ((i : Int) + 1))), (4, vi (b + 2 + 204 * (i : Int))), (0, vr (some a)), (2, vi b), (3, vi (i : Int))] [] h (rA9 h a b t ((f5 s u).map (fun x => (t.2.set i x).eraseIdx (i + 1)))) := by
      have KP := m_isTest (γ := γ) (x := 1) hM (by omega) (by decide) ou gu
      have g5 := gs.2.2.1
      have g6 := gu.2.2.1
      have o5 := os.2.1
      have o6 := ou.2.1
      by_cases A : u.1 = (1, 8)
      · rw [if_pos A] at KP
        cases C : isPosS u with
        | true =>
          rw [C] at ip
          rw [show f5 s u = none from if_neg (fun z => by rw [C] at z; exact absurd z.2.1 (by decide))]
          refine aw_iload dX12_usesAt_260 rfl ?_
          refine aw_iconst dX12_usesAt_262 ?_
          refine aw_ic_eq (tgt := 321) dX12_usesAt_263 rfl (by omega) (by omega) (fun c263 => ?_) (fun c263 => ?_)
          · exact absurd c263 (by omega)
          · refine aw_aload_n dX12_usesAt_266 rfl ?_
            refine aw_iload dX12_usesAt_267 rfl ?_
            refine aw_iconst dX12_usesAt_269 ?_
            refine aw_invV_r dX12_usesAt_270 vX12_isTest kX12_275 rfl (KP) ⟨_, (by assumption), _, _, rfl⟩ rfl rfl (by decide) (by decide) (by decide) (Nat.le_of_ble_eq_true rfl) ?_
            refine aw_if_eq (tgt := 321) dX12_usesAt_273 rfl (by omega) (fun c273 => ?_) (fun c273 => ?_)
            · exact absurd c273 (by omega)
            · refine aw_aload_n dX12_usesAt_276 rfl ?_
              refine aw_iload dX12_usesAt_277 rfl ?_
              refine aw_invV_r dX12_usesAt_279 vX12_isPositionalStep kX12_229 rfl (ip) ⟨_, (by assumption), _, _, rfl⟩ rfl rfl (by decide) (by decide) (by decide) (Nat.le_of_ble_eq_true rfl) ?_
              refine aw_if_ne (tgt := 321) dX12_usesAt_282 rfl (by decide) (fun c282 => ?_) (fun c282 => ?_)
              · refine aw_iconst dX12_usesAt_321 ?_
                exact aw_zreturn dX12_usesAt_322 rfl (by omega) (Or.inl rfl) ⟨rfl, rfl⟩
              · exact absurd c282 (by decide)
        | false =>
          rw [C] at ip
          by_cases B : s.2.length + u.2.length ≤ 3
          · rw [show f5 s u = some (s.1, s.2 ++ u.2) from if_pos ⟨A, C, B⟩]
            have KJ := m_gathers (γ := γ) hM hb hT hs hu B
            refine aw_iload dX12_usesAt_260 rfl ?_
            refine aw_iconst dX12_usesAt_262 ?_
            refine aw_ic_eq (tgt := 321) dX12_usesAt_263 rfl (by omega) (by omega) (fun c263 => ?_) (fun c263 => ?_)
            · exact absurd c263 (by omega)
            · refine aw_aload_n dX12_usesAt_266 rfl ?_
              refine aw_iload dX12_usesAt_267 rfl ?_
              refine aw_iconst dX12_usesAt_269 ?_
              refine aw_invV_r dX12_usesAt_270 vX12_isTest kX12_275 rfl (KP) ⟨_, (by assumption), _, _, rfl⟩ rfl rfl (by decide) (by decide) (by decide) (Nat.le_of_ble_eq_true rfl) ?_
              refine aw_if_eq (tgt := 321) dX12_usesAt_273 rfl (by omega) (fun c273 => ?_) (fun c273 => ?_)
              · exact absurd c273 (by omega)
              · refine aw_aload_n dX12_usesAt_276 rfl ?_
                refine aw_iload dX12_usesAt_277 rfl ?_
                refine aw_invV_r dX12_usesAt_279 vX12_isPositionalStep kX12_229 rfl (ip) ⟨_, (by assumption), _, _, rfl⟩ rfl rfl (by decide) (by decide) (by decide) (Nat.le_of_ble_eq_true rfl) ?_
                refine aw_if_ne (tgt := 321) dX12_usesAt_282 rfl (by decide) (fun c282 => ?_) (fun c282 => ?_)
                · exact absurd rfl c282
                · refine aw_aload_n dX12_usesAt_285 rfl ?_
                  refine aw_getr' (j := 12) dX12_usesAt_286 fX12_28 rfl (by assumption) rfl (by assumption) ?_
                  refine aw_iload dX12_usesAt_289 rfl ?_
                  refine aw_iconst dX12_usesAt_291 ?_
                  refine aw_iadd dX12_usesAt_292 ?_
                  refine aw_iald' dX12_usesAt_293 (by assumption) (by omega) (by first | decide | omega) g5 ?_
                  refine aw_aload_n dX12_usesAt_294 rfl ?_
                  refine aw_getr' (j := 12) dX12_usesAt_295 fX12_28 rfl (by assumption) rfl (by assumption) ?_
                  refine aw_iload dX12_usesAt_298 rfl ?_
                  refine aw_iconst dX12_usesAt_300 ?_
                  refine aw_iadd dX12_usesAt_301 ?_
                  refine aw_iald' dX12_usesAt_302 (by assumption) (by omega) (by first | decide | omega) g6 ?_
                  refine aw_iadd dX12_usesAt_303 ?_
                  refine aw_iconst dX12_usesAt_304 ?_
                  refine aw_ic_gt (tgt := 321) dX12_usesAt_305 rfl (by omega) (by omega) (fun c305 => ?_) (fun c305 => ?_)
                  · exact absurd c305 (by omega)
                  · refine aw_aload_n dX12_usesAt_308 rfl ?_
                    refine aw_iload_n dX12_usesAt_309 rfl ?_
                    refine aw_iload_n dX12_usesAt_310 rfl ?_
                    refine aw_invV_e dX12_usesAt_311 vX12_gathers kX12_294 rfl (KJ) ⟨_, (by assumption), _, _, rfl⟩ rfl rfl (by decide) (by decide) (by decide) (Nat.le_of_ble_eq_true rfl) (fun h1 hP9 => ?_)
                    have z1 := hP9
                    refine aw_if_eq (tgt := 321) dX12_usesAt_314 rfl (by omega) (fun c314 => ?_) (fun c314 => ?_)
                    · exact absurd c314 (by omega)
                    · refine aw_iconst dX12_usesAt_317 ?_
                      refine aw_goto (tgt := 322) dX12_usesAt_318 rfl ?_
                      exact aw_zreturn dX12_usesAt_322 rfl (by omega) (Or.inl rfl) ⟨rfl, z1⟩
          · rw [show f5 s u = none from if_neg (fun z => B z.2.2)]
            refine aw_iload dX12_usesAt_260 rfl ?_
            refine aw_iconst dX12_usesAt_262 ?_
            refine aw_ic_eq (tgt := 321) dX12_usesAt_263 rfl (by omega) (by omega) (fun c263 => ?_) (fun c263 => ?_)
            · exact absurd c263 (by omega)
            · refine aw_aload_n dX12_usesAt_266 rfl ?_
              refine aw_iload dX12_usesAt_267 rfl ?_
              refine aw_iconst dX12_usesAt_269 ?_
              refine aw_invV_r dX12_usesAt_270 vX12_isTest kX12_275 rfl (KP) ⟨_, (by assumption), _, _, rfl⟩ rfl rfl (by decide) (by decide) (by decide) (Nat.le_of_ble_eq_true rfl) ?_
              refine aw_if_eq (tgt := 321) dX12_usesAt_273 rfl (by omega) (fun c273 => ?_) (fun c273 => ?_)
              · exact absurd c273 (by omega)
              · refine aw_aload_n dX12_usesAt_276 rfl ?_
                refine aw_iload dX12_usesAt_277 rfl ?_
                refine aw_invV_r dX12_usesAt_279 vX12_isPositionalStep kX12_229 rfl (ip) ⟨_, (by assumption), _, _, rfl⟩ rfl rfl (by decide) (by decide) (by decide) (Nat.le_of_ble_eq_true rfl) ?_
                refine aw_if_ne (tgt := 321) dX12_usesAt_282 rfl (by decide) (fun c282 => ?_) (fun c282 => ?_)
                · exact absurd rfl c282
                · refine aw_aload_n dX12_usesAt_285 rfl ?_
                  refine aw_getr' (j := 12) dX12_usesAt_286 fX12_28 rfl (by assumption) rfl (by assumption) ?_
                  refine aw_iload dX12_usesAt_289 rfl ?_
                  refine aw_iconst dX12_usesAt_291 ?_
                  refine aw_iadd dX12_usesAt_292 ?_
                  refine aw_iald' dX12_usesAt_293 (by assumption) (by omega) (by first | decide | omega) g5 ?_
                  refine aw_aload_n dX12_usesAt_294 rfl ?_
                  refine aw_getr' (j := 12) dX12_usesAt_295 fX12_28 rfl (by assumption) rfl (by assumption) ?_
                  refine aw_iload dX12_usesAt_298 rfl ?_
                  refine aw_iconst dX12_usesAt_300 ?_
                  refine aw_iadd dX12_usesAt_301 ?_
                  refine aw_iald' dX12_usesAt_302 (by assumption) (by omega) (by first | decide | omega) g6 ?_
                  refine aw_iadd dX12_usesAt_303 ?_
                  refine aw_iconst dX12_usesAt_304 ?_
                  refine aw_ic_gt (tgt := 321) dX12_usesAt_305 rfl (by omega) (by omega) (fun c305 => ?_) (fun c305 => ?_)
                  · refine aw_iconst dX12_usesAt_321 ?_
                    exact aw_zreturn dX12_usesAt_322 rfl (by omega) (Or.inl rfl) ⟨rfl, rfl⟩
                  · exact absurd c305 (by omega)
      · rw [if_neg A] at KP
        rw [show f5 s u = none from if_neg (fun z => A z.1)]
        refine aw_iload dX12_usesAt_260 rfl ?_
        refine aw_iconst dX12_usesAt_262 ?_
        refine aw_ic_eq (tgt := 321) dX12_usesAt_263 rfl (by omega) (by omega) (fun c263 => ?_) (fun c263 => ?_)
        · exact absurd c263 (by omega)
        · refine aw_aload_n dX12_usesAt_266 rfl ?_
          refine aw_iload dX12_usesAt_267 rfl ?_
          refine aw_iconst dX12_usesAt_269 ?_
          refine aw_invV_r dX12_usesAt_270 vX12_isTest kX12_275 rfl (KP) ⟨_, (by assumption), _, _, rfl⟩ rfl rfl (by decide) (by decide) (by decide) (Nat.le_of_ble_eq_true rfl) ?_
          refine aw_if_eq (tgt := 321) dX12_usesAt_273 rfl (by omega) (fun c273 => ?_) (fun c273 => ?_)
          · refine aw_iconst dX12_usesAt_321 ?_
            exact aw_zreturn dX12_usesAt_322 rfl (by omega) (Or.inl rfl) ⟨rfl, rfl⟩
          · exact absurd c273 (by omega)
    refine Call.of (ls := [(0, vr (some a)), (1, vi 5), (2, vi b), (3, vi (i : Int))]) vX12_usesAt.1 (Nat.le_of_ble_eq_true rfl) rfl ?_
    refine aw_iload_n dX12_usesAt_0 rfl ?_
    refine aw_iload_n dX12_usesAt_1 rfl ?_
    refine aw_invS_r dX12_usesAt_2 sX12_stepAt kX12_165 rfl (KC) rfl rfl (by decide) (by decide) (by decide) (Nat.le_of_ble_eq_true rfl) ?_
    refine aw_istore (ls1 := [(4, _), (0, _), (1, _), (2, _), (3, _)]) dX12_usesAt_5 (by decide) rfl ?_
    refine aw_iload_n dX12_usesAt_7 rfl ?_
    refine aw_iconst dX12_usesAt_8 ?_
    refine aw_iadd dX12_usesAt_9 ?_
    refine aw_aload_n dX12_usesAt_10 rfl ?_
    refine aw_getr' (j := 12) dX12_usesAt_11 fX12_28 rfl (by assumption) rfl (by assumption) ?_
    refine aw_iload_n dX12_usesAt_14 rfl ?_
    refine aw_iconst dX12_usesAt_15 ?_
    refine aw_iadd dX12_usesAt_16 ?_
    refine aw_iald' dX12_usesAt_17 (by assumption) (by omega) (by first | decide | omega) g1 ?_
    refine aw_ic_ge (tgt := 31) dX12_usesAt_18 rfl (by omega) (by omega) (fun c18 => ?_) (fun c18 => ?_)
    · exact absurd c18 (by omega)
    · refine aw_iload_n dX12_usesAt_21 rfl ?_
      refine aw_iload_n dX12_usesAt_22 rfl ?_
      refine aw_iconst dX12_usesAt_23 ?_
      refine aw_iadd dX12_usesAt_24 ?_
      refine aw_invS_r dX12_usesAt_25 sX12_stepAt kX12_165 rfl (KD) rfl rfl (by decide) (by decide) (by decide) (Nat.le_of_ble_eq_true rfl) ?_
      refine aw_goto (tgt := 32) dX12_usesAt_28 rfl ?_
      refine aw_istore (ls1 := [(5, _), (4, _), (0, _), (1, _), (2, _), (3, _)]) dX12_usesAt_32 (by decide) rfl ?_
      refine aw_iload_n dX12_usesAt_34 rfl ?_
      refine aw_tableOut (tgt := 260) dX12_usesAt_35 (by omega) (Or.inr (by decide)) rfl ?_
      refine aw_sub [0, 1, 2, 4, 5] rfl ?_
      exact L
