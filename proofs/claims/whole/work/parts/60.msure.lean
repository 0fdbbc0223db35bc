/-! ===== the model: rules within a step ===== -/
theorem m_isSure {γ : GG} {h : AH} {a : Nat} {b : Int} {c : TC} (hM : shM h a) (hb : 1 ≤ b ∧ b + 7 ≤ 6537) (ho : okC c) (hg : gC (gi h (a + 7)) b c) : Call γ mX12_isSure 0 0 0 [vr (some a), vi b] h (rV (vi (if c = sureC then 1 else 0)) h) := by
  obtain ⟨hka, rq, kq⟩ := hM.q
  obtain ⟨g0, g1, g2, g3, g4⟩ := hg
  have kk := okC_k ho
  have ls := okC_sh ho
  by_cases q : c = sureC
  · rw [if_pos q]
    subst q
    have g4' := g4 0 (1, 8) rfl
    simp only [sureC] at g0 g1 g3 g4'
    have e0 : gi h (a + 7) b = 0 := g0
    have e1 : gi h (a + 7) (b + 1) = 3 := g1
    have e3 : gi h (a + 7) (b + 3) = 1 := g3
    have e4 : gi h (a + 7) (b + 4) = 18 := by rw [show b + 4 = b + 4 + ((0 : Nat) : Int) by omega]; exact g4'
    refine Call.of (ls := [(0, vr (some a)), (1, vi b)]) vX12_isSure.1 (Nat.le_of_ble_eq_true rfl) rfl ?_
    refine aw_aload_n dX12_isSure_0 rfl ?_
    refine aw_getr' (j := 12) dX12_isSure_1 fX12_28 rfl (by assumption) rfl (by assumption) ?_
    refine aw_iload_n dX12_isSure_4 rfl ?_
    refine aw_iald' dX12_isSure_5 (by assumption) (by omega) (by first | decide | omega) e0 ?_
    refine aw_if_ne (tgt := 50) dX12_isSure_6 rfl (by omega) (fun c6 => ?_) (fun c6 => ?_)
    · exact absurd c6 (by omega)
    · refine aw_aload_n dX12_isSure_9 rfl ?_
      refine aw_getr' (j := 12) dX12_isSure_10 fX12_28 rfl (by assumption) rfl (by assumption) ?_
      refine aw_iload_n dX12_isSure_13 rfl ?_
      refine aw_iconst dX12_isSure_14 ?_
      refine aw_iadd dX12_isSure_15 ?_
      refine aw_iald' dX12_isSure_16 (by assumption) (by omega) (by first | decide | omega) e1 ?_
      refine aw_iconst dX12_isSure_17 ?_
      refine aw_ic_ne (tgt := 50) dX12_isSure_18 rfl (by omega) (by omega) (fun c18 => ?_) (fun c18 => ?_)
      · exact absurd c18 (by omega)
      · refine aw_aload_n dX12_isSure_21 rfl ?_
        refine aw_getr' (j := 12) dX12_isSure_22 fX12_28 rfl (by assumption) rfl (by assumption) ?_
        refine aw_iload_n dX12_isSure_25 rfl ?_
        refine aw_iconst dX12_isSure_26 ?_
        refine aw_iadd dX12_isSure_27 ?_
        refine aw_iald' dX12_isSure_28 (by assumption) (by omega) (by first | decide | omega) e3 ?_
        refine aw_iconst dX12_isSure_29 ?_
        refine aw_ic_ne (tgt := 50) dX12_isSure_30 rfl (by omega) (by omega) (fun c30 => ?_) (fun c30 => ?_)
        · exact absurd c30 (by omega)
        · refine aw_aload_n dX12_isSure_33 rfl ?_
          refine aw_getr' (j := 12) dX12_isSure_34 fX12_28 rfl (by assumption) rfl (by assumption) ?_
          refine aw_iload_n dX12_isSure_37 rfl ?_
          refine aw_iconst dX12_isSure_38 ?_
          refine aw_iadd dX12_isSure_39 ?_
          refine aw_iald' dX12_isSure_40 (by assumption) (by omega) (by first | decide | omega) e4 ?_
          refine aw_bipush dX12_isSure_41 rfl ?_
          refine aw_ic_ne (tgt := 50) dX12_isSure_43 rfl (by omega) (by omega) (fun c43 => ?_) (fun c43 => ?_)
          · exact absurd c43 (by omega)
          · refine aw_iconst dX12_isSure_46 ?_
            refine aw_goto (tgt := 51) dX12_isSure_47 rfl ?_
            exact aw_zreturn dX12_isSure_51 rfl (by omega) (Or.inl rfl) ⟨rfl, rfl⟩
  · rw [if_neg q]
    by_cases n : c.1 = true
    · have e0 : gi h (a + 7) b = 1 := g0.trans (by rw [n]; rfl)
      refine Call.of (ls := [(0, vr (some a)), (1, vi b)]) vX12_isSure.1 (Nat.le_of_ble_eq_true rfl) rfl ?_
      refine aw_aload_n dX12_isSure_0 rfl ?_
      refine aw_getr' (j := 12) dX12_isSure_1 fX12_28 rfl (by assumption) rfl (by assumption) ?_
      refine aw_iload_n dX12_isSure_4 rfl ?_
      refine aw_iald' dX12_isSure_5 (by assumption) (by omega) (by first | decide | omega) e0 ?_
      refine aw_if_ne (tgt := 50) dX12_isSure_6 rfl (by omega) (fun c6 => ?_) (fun c6 => ?_)
      · refine aw_iconst dX12_isSure_50 ?_
        exact aw_zreturn dX12_isSure_51 rfl (by omega) (Or.inl rfl) ⟨rfl, rfl⟩
      · exact absurd c6 (by omega)
    · have n0 : c.1 = false := by simpa using n
      have e0 : gi h (a + 7) b = 0 := g0.trans (by rw [n0]; rfl)
      by_cases k3 : c.2.1 = 3
      · by_cases l1 : c.2.2.2.length = 1
        · obtain ⟨x, hx⟩ : ∃ x, c.2.2.2[0]? = some x := ⟨_, List.getElem?_eq_getElem (by omega)⟩
          have e4 : gi h (a + 7) (b + 4) = 10 * x.1 + x.2 := by rw [show b + 4 = b + 4 + ((0 : Nat) : Int) by omega]; exact g4 0 x hx
          have ox : okT x ∧ c.2.2.1 = 0 := by
            rcases ho with z | z | z | z
            · omega
            · omega
            · omega
            · exact ⟨z.2.2.2.2 x (List.mem_of_getElem? hx), z.2.1⟩
          obtain ⟨⟨o1, o2, o3, o4⟩, d0⟩ := ox
          have ne : 10 * x.1 + x.2 ≠ 18 := fun z => q (by
            have x1 : x.1 = 1 := by omega
            have x2 : x.2 = 8 := by omega
            obtain ⟨n9, k9, d9, sh9⟩ := c
            obtain ⟨x9, t9⟩ := x
            dsimp only at n0 k3 l1 hx d0 x1 x2
            subst n0 k3 d0 x1 x2
            match sh9, l1, hx with
            | [y], _, hx => simp at hx; subst hx; rfl)
          refine Call.of (ls := [(0, vr (some a)), (1, vi b)]) vX12_isSure.1 (Nat.le_of_ble_eq_true rfl) rfl ?_
          refine aw_aload_n dX12_isSure_0 rfl ?_
          refine aw_getr' (j := 12) dX12_isSure_1 fX12_28 rfl (by assumption) rfl (by assumption) ?_
          refine aw_iload_n dX12_isSure_4 rfl ?_
          refine aw_iald' dX12_isSure_5 (by assumption) (by omega) (by first | decide | omega) e0 ?_
          refine aw_if_ne (tgt := 50) dX12_isSure_6 rfl (by omega) (fun c6 => ?_) (fun c6 => ?_)
          · exact absurd c6 (by omega)
          · refine aw_aload_n dX12_isSure_9 rfl ?_
            refine aw_getr' (j := 12) dX12_isSure_10 fX12_28 rfl (by assumption) rfl (by assumption) ?_
            refine aw_iload_n dX12_isSure_13 rfl ?_
            refine aw_iconst dX12_isSure_14 ?_
            refine aw_iadd dX12_isSure_15 ?_
            refine aw_iald' dX12_isSure_16 (by assumption) (by omega) (by first | decide | omega) g1 ?_
            refine aw_iconst dX12_isSure_17 ?_
            refine aw_ic_ne (tgt := 50) dX12_isSure_18 rfl (by omega) (by omega) (fun c18 => ?_) (fun c18 => ?_)
            · exact absurd c18 (by omega)
            · refine aw_aload_n dX12_isSure_21 rfl ?_
              refine aw_getr' (j := 12) dX12_isSure_22 fX12_28 rfl (by assumption) rfl (by assumption) ?_
              refine aw_iload_n dX12_isSure_25 rfl ?_
              refine aw_iconst dX12_isSure_26 ?_
              refine aw_iadd dX12_isSure_27 ?_
              refine aw_iald' dX12_isSure_28 (by assumption) (by omega) (by first | decide | omega) g3 ?_
              refine aw_iconst dX12_isSure_29 ?_
              refine aw_ic_ne (tgt := 50) dX12_isSure_30 rfl (by omega) (by omega) (fun c30 => ?_) (fun c30 => ?_)
              · exact absurd c30 (by omega)
              · refine aw_aload_n dX12_isSure_33 rfl ?_
                refine aw_getr' (j := 12) dX12_isSure_34 fX12_28 rfl (by assumption) rfl (by assumption) ?_
                refine aw_iload_n dX12_isSure_37 rfl ?_
                refine aw_iconst dX12_isSure_38 ?_
                refine aw_iadd dX12_isSure_39 ?_
                refine aw_iald' dX12_isSure_40 (by assumption) (by omega) (by first | decide | omega) e4 ?_
                refine aw_bipush dX12_isSure_41 rfl ?_
                refine aw_ic_ne (tgt := 50) dX12_isSure_43 rfl (by omega) (by omega) (fun c43 => ?_) (fun c43 => ?_)
                · refine aw_iconst dX12_isSure_50 ?_
                  exact aw_zreturn dX12_isSure_51 rfl (by omega) (Or.inl rfl) ⟨rfl, rfl⟩
                · exact absurd c43 (fun z => z ne)
        · skip
          refine Call.of (ls := [(0, vr (some a)), (1, vi b)]) vX12_isSure.1 (Nat.le_of_ble_eq_true rfl) rfl ?_
          refine aw_aload_n dX12_isSure_0 rfl ?_
          refine aw_getr' (j := 12) dX12_isSure_1 fX12_28 rfl (by assumption) rfl (by assumption) ?_
          refine aw_iload_n dX12_isSure_4 rfl ?_
          refine aw_iald' dX12_isSure_5 (by assumption) (by omega) (by first | decide | omega) e0 ?_
          refine aw_if_ne (tgt := 50) dX12_isSure_6 rfl (by omega) (fun c6 => ?_) (fun c6 => ?_)
          · exact absurd c6 (by omega)
          · refine aw_aload_n dX12_isSure_9 rfl ?_
            refine aw_getr' (j := 12) dX12_isSure_10 fX12_28 rfl (by assumption) rfl (by assumption) ?_
            refine aw_iload_n dX12_isSure_13 rfl ?_
            refine aw_iconst dX12_isSure_14 ?_
            refine aw_iadd dX12_isSure_15 ?_
            refine aw_iald' dX12_isSure_16 (by assumption) (by omega) (by first | decide | omega) g1 ?_
            refine aw_iconst dX12_isSure_17 ?_
            refine aw_ic_ne (tgt := 50) dX12_isSure_18 rfl (by omega) (by omega) (fun c18 => ?_) (fun c18 => ?_)
            · exact absurd c18 (by omega)
            · refine aw_aload_n dX12_isSure_21 rfl ?_
              refine aw_getr' (j := 12) dX12_isSure_22 fX12_28 rfl (by assumption) rfl (by assumption) ?_
              refine aw_iload_n dX12_isSure_25 rfl ?_
              refine aw_iconst dX12_isSure_26 ?_
              refine aw_iadd dX12_isSure_27 ?_
              refine aw_iald' dX12_isSure_28 (by assumption) (by omega) (by first | decide | omega) g3 ?_
              refine aw_iconst dX12_isSure_29 ?_
              refine aw_ic_ne (tgt := 50) dX12_isSure_30 rfl (by omega) (by omega) (fun c30 => ?_) (fun c30 => ?_)
              · refine aw_iconst dX12_isSure_50 ?_
                exact aw_zreturn dX12_isSure_51 rfl (by omega) (Or.inl rfl) ⟨rfl, rfl⟩
              · exact absurd c30 (by omega)
      · skip
        refine Call.of (ls := [(0, vr (some a)), (1, vi b)]) vX12_isSure.1 (Nat.le_of_ble_eq_true rfl) rfl ?_
        refine aw_aload_n dX12_isSure_0 rfl ?_
        refine aw_getr' (j := 12) dX12_isSure_1 fX12_28 rfl (by assumption) rfl (by assumption) ?_
        refine aw_iload_n dX12_isSure_4 rfl ?_
        refine aw_iald' dX12_isSure_5 (by assumption) (by omega) (by first | decide | omega) e0 ?_
        refine aw_if_ne (tgt := 50) dX12_isSure_6 rfl (by omega) (fun c6 => ?_) (fun c6 => ?_)
        · exact absurd c6 (by omega)
        · refine aw_aload_n dX12_isSure_9 rfl ?_
          refine aw_getr' (j := 12) dX12_isSure_10 fX12_28 rfl (by assumption) rfl (by assumption) ?_
          refine aw_iload_n dX12_isSure_13 rfl ?_
          refine aw_iconst dX12_isSure_14 ?_
          refine aw_iadd dX12_isSure_15 ?_
          refine aw_iald' dX12_isSure_16 (by assumption) (by omega) (by first | decide | omega) g1 ?_
          refine aw_iconst dX12_isSure_17 ?_
          refine aw_ic_ne (tgt := 50) dX12_isSure_18 rfl (by omega) (by omega) (fun c18 => ?_) (fun c18 => ?_)
          · refine aw_iconst dX12_isSure_50 ?_
            exact aw_zreturn dX12_isSure_51 rfl (by omega) (Or.inl rfl) ⟨rfl, rfl⟩
          · exact absurd c18 (by omega)
def sA (al : TA) : Bool := decide (al = [sureC])
theorem l_isp {γ : GG} {h : AH} {a : Nat} {b : Int} {p : TP} (hM : shM h a) (ho : okP p) (hb : 1 ≤ b ∧ b + 67 ≤ 6537) (hg : gP (gi h (a + 7)) b p) : ∀ (r : TP) (k : Nat) (ac : Bool), p.drop k = r → k ≤ p.length → AW γ mX12_isSurePredicate 1 0 0 4 [(3, vi (k : Int)), (2, vi (bI ac)), (0, vr (some a)), (1, vi b)] [] h (rV (vi (bI (ac || r.any sA))) h) := by
  obtain ⟨hka, rq, kq⟩ := hM.q
  have g0 := hg.1
  have l3 := ho.2.1
  intro r
  induction r with
  | nil =>
    intro k ac hd hkl
    have hk := List.drop_eq_nil_iff.mp hd
    simp only [List.any_nil, Bool.or_false]
    refine aw_iload_n dX12_isSurePredicate_4 rfl ?_
    refine aw_aload_n dX12_isSurePredicate_5 rfl ?_
    refine aw_getr' (j := 12) dX12_isSurePredicate_6 fX12_28 rfl (by assumption) rfl (by assumption) ?_
    refine aw_iload_n dX12_isSurePredicate_9 rfl ?_
    refine aw_iald' dX12_isSurePredicate_10 (by assumption) (by omega) (by first | decide | omega) g0 ?_
    refine aw_ic_ge (tgt := 61) dX12_isSurePredicate_11 rfl (by omega) (by omega) (fun c11 => ?_) (fun c11 => ?_)
    · refine aw_iload_n dX12_isSurePredicate_61 rfl ?_
      exact aw_zreturn dX12_isSurePredicate_62 rfl (bI_01 ac) (Or.inl rfl) ⟨rfl, rfl⟩
    · exact absurd c11 (by omega)
  | cons x r ih =>
    intro k ac hd hkl
    obtain ⟨hx, hdr, hlt⟩ := drop_hd hd
    have ox := ho.2.2 x (List.mem_of_getElem? hx)
    have gx := hg.2 k x hx
    have gx0 := gx.1
    have KC := m_alternativeAt (γ := γ) (h := h) (p := b) (k := (k : Int))
    have KD := m_conditionAt (γ := γ) (h := h) (p := b + 1 + 22 * (k : Int)) (k := 0)
    have I := ih (k + 1) (ac || sA x) hdr (by omega)
    rw [Bool.or_assoc, ← List.any_cons (f := sA)] at I
    cases ac with
    | true =>
      simp only [Bool.true_or] at I ⊢
      refine aw_iload_n dX12_isSurePredicate_4 rfl ?_
      refine aw_aload_n dX12_isSurePredicate_5 rfl ?_
      refine aw_getr' (j := 12) dX12_isSurePredicate_6 fX12_28 rfl (by assumption) rfl (by assumption) ?_
      refine aw_iload_n dX12_isSurePredicate_9 rfl ?_
      refine aw_iald' dX12_isSurePredicate_10 (by assumption) (by omega) (by first | decide | omega) g0 ?_
      refine aw_ic_ge (tgt := 61) dX12_isSurePredicate_11 rfl (by omega) (by omega) (fun c11 => ?_) (fun c11 => ?_)
      · exact absurd c11 (by omega)
      · refine aw_iload_n dX12_isSurePredicate_14 rfl ?_
        refine aw_iload_n dX12_isSurePredicate_15 rfl ?_
        refine aw_invS_r dX12_isSurePredicate_16 sX12_alternativeAt kX12_159 rfl (KC) rfl rfl (by decide) (by decide) (by decide) (Nat.le_of_ble_eq_true rfl) ?_
        refine aw_istore (ls1 := [(4, _), (3, _), (2, _), (0, _), (1, _)]) dX12_isSurePredicate_19 (by decide) rfl ?_
        refine aw_iload_n dX12_isSurePredicate_21 rfl ?_
        refine aw_if_ne (tgt := 49) dX12_isSurePredicate_22 rfl (by decide) (fun c22 => ?_) (fun c22 => ?_)
        · refine aw_iconst dX12_isSurePredicate_49 ?_
          refine aw_goto (tgt := 54) dX12_isSurePredicate_50 rfl ?_
          refine aw_istore_n (ls1 := [(2, _), (4, _), (3, _), (0, _), (1, _)]) dX12_isSurePredicate_54 (by decide) rfl ?_
          refine aw_iinc (k9 := 2) (ls1 := [(3, _), (2, _), (4, _), (0, _), (1, _)]) dX12_isSurePredicate_55 rfl (by decide) rfl ?_
          refine aw_goto (tgt := 4) dX12_isSurePredicate_58 rfl ?_
          refine aw_sub [0, 1, 3, 4] rfl ?_
          exact I
        · exact absurd c22 (by decide)
    | false =>
      simp only [Bool.false_or] at I ⊢
      by_cases l1 : x.length = 1
      · obtain ⟨c, rfl⟩ : ∃ c, x = [c] := by
          match x, l1 with
          | [c], _ => exact ⟨c, rfl⟩
        have KS := m_isSure (γ := γ) (b := b + 1 + 22 * (k : Int) + 1 + 7 * 0) hM (by omega) (ox.2.2 c (by simp)) (gx.2 0 c rfl)
        by_cases q : c = sureC
        · rw [if_pos q] at KS
          have e : sA [c] = true := by unfold sA; simp [q]
          rw [e] at I
          refine aw_iload_n dX12_isSurePredicate_4 rfl ?_
          refine aw_aload_n dX12_isSurePredicate_5 rfl ?_
          refine aw_getr' (j := 12) dX12_isSurePredicate_6 fX12_28 rfl (by assumption) rfl (by assumption) ?_
          refine aw_iload_n dX12_isSurePredicate_9 rfl ?_
          refine aw_iald' dX12_isSurePredicate_10 (by assumption) (by omega) (by first | decide | omega) g0 ?_
          refine aw_ic_ge (tgt := 61) dX12_isSurePredicate_11 rfl (by omega) (by omega) (fun c11 => ?_) (fun c11 => ?_)
          · exact absurd c11 (by omega)
          · refine aw_iload_n dX12_isSurePredicate_14 rfl ?_
            refine aw_iload_n dX12_isSurePredicate_15 rfl ?_
            refine aw_invS_r dX12_isSurePredicate_16 sX12_alternativeAt kX12_159 rfl (KC) rfl rfl (by decide) (by decide) (by decide) (Nat.le_of_ble_eq_true rfl) ?_
            refine aw_istore (ls1 := [(4, _), (3, _), (2, _), (0, _), (1, _)]) dX12_isSurePredicate_19 (by decide) rfl ?_
            refine aw_iload_n dX12_isSurePredicate_21 rfl ?_
            refine aw_if_ne (tgt := 49) dX12_isSurePredicate_22 rfl (by decide) (fun c22 => ?_) (fun c22 => ?_)
            · exact absurd rfl c22
            · refine aw_aload_n dX12_isSurePredicate_25 rfl ?_
              refine aw_getr' (j := 12) dX12_isSurePredicate_26 fX12_28 rfl (by assumption) rfl (by assumption) ?_
              refine aw_iload dX12_isSurePredicate_29 rfl ?_
              refine aw_iald' dX12_isSurePredicate_31 (by assumption) (by omega) (by first | decide | omega) gx0 ?_
              refine aw_iconst dX12_isSurePredicate_32 ?_
              refine aw_ic_ne (tgt := 53) dX12_isSurePredicate_33 rfl (by omega) (by omega) (fun c33 => ?_) (fun c33 => ?_)
              · exact absurd c33 (by simp)
              · refine aw_aload_n dX12_isSurePredicate_36 rfl ?_
                refine aw_iload dX12_isSurePredicate_37 rfl ?_
                refine aw_iconst dX12_isSurePredicate_39 ?_
                refine aw_invS_r dX12_isSurePredicate_40 sX12_conditionAt kX12_153 rfl (KD) rfl rfl (by decide) (by decide) (by decide) (Nat.le_of_ble_eq_true rfl) ?_
                refine aw_invV_r dX12_isSurePredicate_43 vX12_isSure kX12_300 rfl (KS) ⟨_, (by assumption), _, _, rfl⟩ rfl rfl (by decide) (by decide) (by decide) (Nat.le_of_ble_eq_true rfl) ?_
                refine aw_if_eq (tgt := 53) dX12_isSurePredicate_46 rfl (by omega) (fun c46 => ?_) (fun c46 => ?_)
                · exact absurd c46 (by omega)
                · refine aw_iconst dX12_isSurePredicate_49 ?_
                  refine aw_goto (tgt := 54) dX12_isSurePredicate_50 rfl ?_
                  refine aw_istore_n (ls1 := [(2, _), (4, _), (3, _), (0, _), (1, _)]) dX12_isSurePredicate_54 (by decide) rfl ?_
                  refine aw_iinc (k9 := 2) (ls1 := [(3, _), (2, _), (4, _), (0, _), (1, _)]) dX12_isSurePredicate_55 rfl (by decide) rfl ?_
                  refine aw_goto (tgt := 4) dX12_isSurePredicate_58 rfl ?_
                  refine aw_sub [0, 1, 3, 4] rfl ?_
                  exact I
        · rw [if_neg q] at KS
          have e : sA [c] = false := by unfold sA; simp [q]
          rw [e] at I
          refine aw_iload_n dX12_isSurePredicate_4 rfl ?_
          refine aw_aload_n dX12_isSurePredicate_5 rfl ?_
          refine aw_getr' (j := 12) dX12_isSurePredicate_6 fX12_28 rfl (by assumption) rfl (by assumption) ?_
          refine aw_iload_n dX12_isSurePredicate_9 rfl ?_
          refine aw_iald' dX12_isSurePredicate_10 (by assumption) (by omega) (by first | decide | omega) g0 ?_
          refine aw_ic_ge (tgt := 61) dX12_isSurePredicate_11 rfl (by omega) (by omega) (fun c11 => ?_) (fun c11 => ?_)
          · exact absurd c11 (by omega)
          · refine aw_iload_n dX12_isSurePredicate_14 rfl ?_
            refine aw_iload_n dX12_isSurePredicate_15 rfl ?_
            refine aw_invS_r dX12_isSurePredicate_16 sX12_alternativeAt kX12_159 rfl (KC) rfl rfl (by decide) (by decide) (by decide) (Nat.le_of_ble_eq_true rfl) ?_
            refine aw_istore (ls1 := [(4, _), (3, _), (2, _), (0, _), (1, _)]) dX12_isSurePredicate_19 (by decide) rfl ?_
            refine aw_iload_n dX12_isSurePredicate_21 rfl ?_
            refine aw_if_ne (tgt := 49) dX12_isSurePredicate_22 rfl (by decide) (fun c22 => ?_) (fun c22 => ?_)
            · exact absurd rfl c22
            · refine aw_aload_n dX12_isSurePredicate_25 rfl ?_
              refine aw_getr' (j := 12) dX12_isSurePredicate_26 fX12_28 rfl (by assumption) rfl (by assumption) ?_
              refine aw_iload dX12_isSurePredicate_29 rfl ?_
              refine aw_iald' dX12_isSurePredicate_31 (by assumption) (by omega) (by first | decide | omega) gx0 ?_
              refine aw_iconst dX12_isSurePredicate_32 ?_
              refine aw_ic_ne (tgt := 53) dX12_isSurePredicate_33 rfl (by omega) (by omega) (fun c33 => ?_) (fun c33 => ?_)
              · exact absurd c33 (by simp)
              · refine aw_aload_n dX12_isSurePredicate_36 rfl ?_
                refine aw_iload dX12_isSurePredicate_37 rfl ?_
                refine aw_iconst dX12_isSurePredicate_39 ?_
                refine aw_invS_r dX12_isSurePredicate_40 sX12_conditionAt kX12_153 rfl (KD) rfl rfl (by decide) (by decide) (by decide) (Nat.le_of_ble_eq_true rfl) ?_
                refine aw_invV_r dX12_isSurePredicate_43 vX12_isSure kX12_300 rfl (KS) ⟨_, (by assumption), _, _, rfl⟩ rfl rfl (by decide) (by decide) (by decide) (Nat.le_of_ble_eq_true rfl) ?_
                refine aw_if_eq (tgt := 53) dX12_isSurePredicate_46 rfl (by omega) (fun c46 => ?_) (fun c46 => ?_)
                · refine aw_iconst dX12_isSurePredicate_53 ?_
                  refine aw_istore_n (ls1 := [(2, _), (4, _), (3, _), (0, _), (1, _)]) dX12_isSurePredicate_54 (by decide) rfl ?_
                  refine aw_iinc (k9 := 2) (ls1 := [(3, _), (2, _), (4, _), (0, _), (1, _)]) dX12_isSurePredicate_55 rfl (by decide) rfl ?_
                  refine aw_goto (tgt := 4) dX12_isSurePredicate_58 rfl ?_
                  refine aw_sub [0, 1, 3, 4] rfl ?_
                  exact I
                · exact absurd c46 (by omega)
      · have e : sA x = false := by
          unfold sA
          refine decide_eq_false (fun z => l1 ?_)
          rw [z]
          rfl
        have lx := ox.2.1
        rw [e] at I
        refine aw_iload_n dX12_isSurePredicate_4 rfl ?_
        refine aw_aload_n dX12_isSurePredicate_5 rfl ?_
        refine aw_getr' (j := 12) dX12_isSurePredicate_6 fX12_28 rfl (by assumption) rfl (by assumption) ?_
        refine aw_iload_n dX12_isSurePredicate_9 rfl ?_
        refine aw_iald' dX12_isSurePredicate_10 (by assumption) (by omega) (by first | decide | omega) g0 ?_
        refine aw_ic_ge (tgt := 61) dX12_isSurePredicate_11 rfl (by omega) (by omega) (fun c11 => ?_) (fun c11 => ?_)
        · exact absurd c11 (by omega)
        · refine aw_iload_n dX12_isSurePredicate_14 rfl ?_
          refine aw_iload_n dX12_isSurePredicate_15 rfl ?_
          refine aw_invS_r dX12_isSurePredicate_16 sX12_alternativeAt kX12_159 rfl (KC) rfl rfl (by decide) (by decide) (by decide) (Nat.le_of_ble_eq_true rfl) ?_
          refine aw_istore (ls1 := [(4, _), (3, _), (2, _), (0, _), (1, _)]) dX12_isSurePredicate_19 (by decide) rfl ?_
          refine aw_iload_n dX12_isSurePredicate_21 rfl ?_
          refine aw_if_ne (tgt := 49) dX12_isSurePredicate_22 rfl (by decide) (fun c22 => ?_) (fun c22 => ?_)
          · exact absurd rfl c22
          · refine aw_aload_n dX12_isSurePredicate_25 rfl ?_
            refine aw_getr' (j := 12) dX12_isSurePredicate_26 fX12_28 rfl (by assumption) rfl (by assumption) ?_
            refine aw_iload dX12_isSurePredicate_29 rfl ?_
            refine aw_iald' dX12_isSurePredicate_31 (by assumption) (by omega) (by first | decide | omega) gx0 ?_
            refine aw_iconst dX12_isSurePredicate_32 ?_
            refine aw_ic_ne (tgt := 53) dX12_isSurePredicate_33 rfl (by omega) (by omega) (fun c33 => ?_) (fun c33 => ?_)
            · refine aw_iconst dX12_isSurePredicate_53 ?_
              refine aw_istore_n (ls1 := [(2, _), (4, _), (3, _), (0, _), (1, _)]) dX12_isSurePredicate_54 (by decide) rfl ?_
              refine aw_iinc (k9 := 2) (ls1 := [(3, _), (2, _), (4, _), (0, _), (1, _)]) dX12_isSurePredicate_55 rfl (by decide) rfl ?_
              refine aw_goto (tgt := 4) dX12_isSurePredicate_58 rfl ?_
              refine aw_sub [0, 1, 3, 4] rfl ?_
              exact I
            · exact absurd c33 (by omega)
theorem sA_any (p : TP) : p.any sA = decide ([sureC] ∈ p) := by
  induction p with
  | nil => rfl
  | cons x r ih =>
    rw [List.any_cons, ih]
    unfold sA
    by_cases q : x = [sureC]
    · subst q; simp
    · by_cases q2 : [sureC] ∈ r
      · simp [q2]
      · rw [decide_eq_false q, decide_eq_false q2, decide_eq_false]
        · rfl
        · intro z
          rcases List.mem_cons.mp z with z | z
          · exact q z.symm
          · exact q2 z
theorem m_isSurePredicate {γ : GG} {h : AH} {a : Nat} {b : Int} {p : TP} (hM : shM h a) (ho : okP p) (hb : 1 ≤ b ∧ b + 67 ≤ 6537) (hg : gP (gi h (a + 7)) b p) : Call γ mX12_isSurePredicate 1 0 0 [vr (some a), vi b] h (rV (vi (bI (decide ([sureC] ∈ p)))) h) := by
  have L := l_isp (γ := γ) hM ho hb hg p 0 false rfl (Nat.zero_le _)
  rw [Bool.false_or, sA_any] at L
  refine Call.of (ls := [(0, vr (some a)), (1, vi b)]) vX12_isSurePredicate.1 (Nat.le_of_ble_eq_true rfl) rfl ?_
  refine aw_iconst dX12_isSurePredicate_0 ?_
  refine aw_istore_n (ls1 := [(2, _), (0, _), (1, _)]) dX12_isSurePredicate_1 (by decide) rfl ?_
  refine aw_iconst dX12_isSurePredicate_2 ?_
  refine aw_istore_n (ls1 := [(3, _), (2, _), (0, _), (1, _)]) dX12_isSurePredicate_3 (by decide) rfl ?_
  refine aw_sub [0, 1, 2, 3] rfl ?_
  exact L
/-- a condition taken away -/
def hRC (h : AH) (a : Nat) (b : Int) (i n : Nat) : AH := si (cpI h (a + 7) (b + 1 + 7 * ((i : Int) + 1)) (a + 7) (b + 1 + 7 * (i : Int)) ((7 * (n - i - 1) : Nat) : Int)) (a + 7) b ((n : Int) - 1)
theorem gA_hRC {h : AH} {a : Nat} {b : Int} {al : TA} {i : Nat} (hg : gA (gi h (a + 7)) b al) (ho : okA al) (hi : i < al.length) (hl : 1 < al.length) : gA (gi (hRC h a b i al.length) (a + 7)) b (al.eraseIdx i) ∧ okA (al.eraseIdx i) ∧ eqG (SQ a b (b + 22)) h (hRC h a b i al.length) := by
  obtain ⟨g0, g3⟩ := hg
  obtain ⟨o1, o2, o3⟩ := ho
  have el : (al.eraseIdx i).length = al.length - 1 := List.length_eraseIdx_of_lt hi
  unfold hRC
  refine ⟨⟨(gi_at rfl rfl).trans (by rw [el]; omega), fun j p hp => ?_⟩, ⟨by omega, by omega, mem_er o3⟩, (eqG_mv (by omega) (by omega)).tr (eqG.si ⟨rfl, by omega, by omega⟩)⟩
  have lj := lt_of_get hp
  rcases er_get hp with ⟨q1, q2⟩ | ⟨q1, q2⟩
  · exact (g3 j p q2).eq (o3 p (List.mem_of_getElem? q2)) (fun x x1 x2 => (gi_ne (Or.inr (by omega))).trans (gi_mvo (by omega)))
  · refine (g3 (j + 1) p q2).eq (o3 p (List.mem_of_getElem? q2)) (fun x x1 x2 => (gi_ne (Or.inr (by omega))).trans ((gi_mvi (by omega) (by omega)).trans ?_))
    congr 1
    omega
theorem gP_set {h h' : AH} {a : Nat} {b : Int} {p : TP} {i : Nat} {x : TA} (hg : gP (gi h (a + 7)) b p) (ho : okP p) (hi : i < p.length) (gx : gA (gi h' (a + 7)) (b + 1 + 22 * (i : Int)) x) (ox : okA x) (e : eqG (SQ a (b + 1 + 22 * (i : Int)) (b + 1 + 22 * (i : Int) + 22)) h h') : gP (gi h' (a + 7)) b (p.set i x) ∧ okP (p.set i x) := by
  obtain ⟨g0, g1⟩ := hg
  obtain ⟨o1, o2, o3⟩ := ho
  refine ⟨⟨(e.2.2.2.2 _ _ (by unfold SQ; omega)).trans (g0.trans (by simp)), fun j s hs => ?_⟩, by rw [List.length_set]; exact o1, by rw [List.length_set]; exact o2, mem_set9 o3 ox⟩
  rcases set_get hs with ⟨q1, q2⟩ | ⟨q1, q2⟩
  · subst q1 q2; exact gx
  · have := lt_of_get q2
    exact (g1 j s q2).eq (o3 s (List.mem_of_getElem? q2)) (fun z z1 z2 => e.2.2.2.2 _ _ (by unfold SQ; omega))
theorem gS_set {h h' : AH} {a : Nat} {b : Int} {s : TS} {i : Nat} {x : TP} (hg : gS (gi h (a + 7)) b s) (ho : okS s) (hi : i < s.2.length) (gx : gP (gi h' (a + 7)) (b + 3 + 67 * (i : Int)) x) (ox : okP x) (e : eqG (SQ a (b + 3 + 67 * (i : Int)) (b + 3 + 67 * (i : Int) + 67)) h h') : gS (gi h' (a + 7)) b (s.1, s.2.set i x) ∧ okS (s.1, s.2.set i x) := by
  obtain ⟨g0, g1, g2, g3⟩ := hg
  obtain ⟨o1, o2, o3⟩ := ho
  refine ⟨⟨(e.2.2.2.2 _ _ (by unfold SQ; omega)).trans g0, (e.2.2.2.2 _ _ (by unfold SQ; omega)).trans g1, (e.2.2.2.2 _ _ (by unfold SQ; omega)).trans (g2.trans (by simp)), fun j s hs => ?_⟩, o1, by dsimp only; rw [List.length_set]; exact o2, mem_set9 o3 ox⟩
  rcases set_get hs with ⟨q1, q2⟩ | ⟨q1, q2⟩
  · subst q1 q2; exact gx
  · have := lt_of_get q2
    exact (g3 j s q2).eq (o3 s (List.mem_of_getElem? q2)) (fun z z1 z2 => e.2.2.2.2 _ _ (by unfold SQ; omega))
def r6O (h : AH) (a : Nat) (b : Int) : Option TP → AR → AH → Prop
  | none => rV (vi 0) h
  | some p => rE (vi 1) (fun h' => gP (gi h' (a + 7)) b p ∧ okP p ∧ eqG (SQ a b (b + 67)) h h')
theorem r6A_no9 {al : TA} (h : r6A al = none) : ¬ (1 < al.length ∧ sureC ∈ al) := by
  unfold r6A at h
  intro q
  rw [if_pos q] at h
  cases h
theorem r6A_so9 {al x : TA} (h : r6A al = some x) : 1 < al.length ∧ sureC ∈ al ∧ er al = x := by
  unfold r6A at h
  by_cases q : 1 < al.length ∧ sureC ∈ al
  · rw [if_pos q] at h
    cases h
    exact ⟨q.1, q.2, rfl⟩
  · rw [if_neg q] at h
    cases h
theorem l_uc0 {γ : GG} {h : AH} {a : Nat} {b ab i : Int} {al : TA} {Q : AR → AH → Prop} (hM : shM h a) (ho : okA al) (hb : 1 ≤ ab ∧ ab + 22 ≤ 6537) (hg : gA (gi h (a + 7)) ab al) (hn : r6A al = none) (kk : AW γ mX12_usesCondition 1 0 0 105 [(2, vi i), (0, vr (some a)), (1, vi b)] [] h Q) : ∀ (r : TA) (k : Nat), al.drop k = r → k ≤ al.length → AW γ mX12_usesCondition 1 0 0 21 [(4, vi (k : Int)), (3, vi ab), (2, vi i), (0, vr (some a)), (1, vi b)] [] h Q := by
  obtain ⟨hka, rq, kq⟩ := hM.q
  have g0 := hg.1
  have l3 := ho.2.1
  have hn := r6A_no9 hn
  intro r
  induction r with
  | nil =>
    intro k hd hkl
    have hk := List.drop_eq_nil_iff.mp hd
    refine aw_iload dX12_usesCondition_21 rfl ?_
    refine aw_aload_n dX12_usesCondition_23 rfl ?_
    refine aw_getr' (j := 12) dX12_usesCondition_24 fX12_28 rfl (by assumption) rfl (by assumption) ?_
    refine aw_iload_n dX12_usesCondition_27 rfl ?_
    refine aw_iald' dX12_usesCondition_28 (by assumption) (by omega) (by first | decide | omega) g0 ?_
    refine aw_ic_ge (tgt := 105) dX12_usesCondition_29 rfl (by omega) (by omega) (fun c29 => ?_) (fun c29 => ?_)
    · refine aw_sub [2, 3, 4] rfl ?_
      exact kk
    · exact absurd c29 (by omega)
  | cons x r ih =>
    intro k hd hkl
    obtain ⟨hx, hdr, hlt⟩ := drop_hd hd
    have I := ih (k + 1) hdr (by omega)
    have KC := m_conditionAt (γ := γ) (h := h) (p := ab) (k := (k : Int))
    have KS := m_isSure (γ := γ) hM (by omega) (ho.2.2 x (List.mem_of_getElem? hx)) (hg.2 k x hx)
    by_cases q : x = sureC
    · rw [if_pos q] at KS
      have l1 : ¬ 1 < al.length := fun z => hn ⟨z, by rw [← q]; exact List.mem_of_getElem? hx⟩
      refine aw_iload dX12_usesCondition_21 rfl ?_
      refine aw_aload_n dX12_usesCondition_23 rfl ?_
      refine aw_getr' (j := 12) dX12_usesCondition_24 fX12_28 rfl (by assumption) rfl (by assumption) ?_
      refine aw_iload_n dX12_usesCondition_27 rfl ?_
      refine aw_iald' dX12_usesCondition_28 (by assumption) (by omega) (by first | decide | omega) g0 ?_
      refine aw_ic_ge (tgt := 105) dX12_usesCondition_29 rfl (by omega) (by omega) (fun c29 => ?_) (fun c29 => ?_)
      · exact absurd c29 (by omega)
      · refine aw_aload_n dX12_usesCondition_32 rfl ?_
        refine aw_iload_n dX12_usesCondition_33 rfl ?_
        refine aw_iload dX12_usesCondition_34 rfl ?_
        refine aw_invS_r dX12_usesCondition_36 sX12_conditionAt kX12_153 rfl (KC) rfl rfl (by decide) (by decide) (by decide) (Nat.le_of_ble_eq_true rfl) ?_
        refine aw_invV_r dX12_usesCondition_39 vX12_isSure kX12_300 rfl (KS) ⟨_, (by assumption), _, _, rfl⟩ rfl rfl (by decide) (by decide) (by decide) (Nat.le_of_ble_eq_true rfl) ?_
        refine aw_if_eq (tgt := 99) dX12_usesCondition_42 rfl (by omega) (fun c42 => ?_) (fun c42 => ?_)
        · exact absurd c42 (by omega)
        · refine aw_aload_n dX12_usesCondition_45 rfl ?_
          refine aw_getr' (j := 12) dX12_usesCondition_46 fX12_28 rfl (by assumption) rfl (by assumption) ?_
          refine aw_iload_n dX12_usesCondition_49 rfl ?_
          refine aw_iald' dX12_usesCondition_50 (by assumption) (by omega) (by first | decide | omega) g0 ?_
          refine aw_iconst dX12_usesCondition_51 ?_
          refine aw_ic_le (tgt := 99) dX12_usesCondition_52 rfl (by omega) (by omega) (fun c52 => ?_) (fun c52 => ?_)
          · refine aw_iinc (k9 := 0) (ls1 := [(4, _), (3, _), (2, _), (0, _), (1, _)]) dX12_usesCondition_99 rfl (by decide) rfl ?_
            refine aw_goto (tgt := 21) dX12_usesCondition_102 rfl ?_
            refine aw_sub [0, 1, 2, 3, 4] rfl ?_
            exact I
          · exact absurd c52 (by omega)
    · rw [if_neg q] at KS
      refine aw_iload dX12_usesCondition_21 rfl ?_
      refine aw_aload_n dX12_usesCondition_23 rfl ?_
      refine aw_getr' (j := 12) dX12_usesCondition_24 fX12_28 rfl (by assumption) rfl (by assumption) ?_
      refine aw_iload_n dX12_usesCondition_27 rfl ?_
      refine aw_iald' dX12_usesCondition_28 (by assumption) (by omega) (by first | decide | omega) g0 ?_
      refine aw_ic_ge (tgt := 105) dX12_usesCondition_29 rfl (by omega) (by omega) (fun c29 => ?_) (fun c29 => ?_)
      · exact absurd c29 (by omega)
      · refine aw_aload_n dX12_usesCondition_32 rfl ?_
        refine aw_iload_n dX12_usesCondition_33 rfl ?_
        refine aw_iload dX12_usesCondition_34 rfl ?_
        refine aw_invS_r dX12_usesCondition_36 sX12_conditionAt kX12_153 rfl (KC) rfl rfl (by decide) (by decide) (by decide) (Nat.le_of_ble_eq_true rfl) ?_
        refine aw_invV_r dX12_usesCondition_39 vX12_isSure kX12_300 rfl (KS) ⟨_, (by assumption), _, _, rfl⟩ rfl rfl (by decide) (by decide) (by decide) (Nat.le_of_ble_eq_true rfl) ?_
        refine aw_if_eq (tgt := 99) dX12_usesCondition_42 rfl (by omega) (fun c42 => ?_) (fun c42 => ?_)
        · refine aw_iinc (k9 := 0) (ls1 := [(4, _), (3, _), (2, _), (0, _), (1, _)]) dX12_usesCondition_99 rfl (by decide) rfl ?_
          refine aw_goto (tgt := 21) dX12_usesCondition_102 rfl ?_
          refine aw_sub [0, 1, 2, 3, 4] rfl ?_
          exact I
        · exact absurd c42 (by omega)
theorem l_uc1 {γ : GG} {h : AH} {a : Nat} {b ab i : Int} {al x0 : TA} (hM : shM h a) (ho : okA al) (hb : 1 ≤ ab ∧ ab + 22 ≤ 6537) (hg : gA (gi h (a + 7)) ab al) (hn : r6A al = some x0) : ∀ (r : TA) (k : Nat), al.drop k = r → k ≤ al.length → (∀ j, j < k → al[j]? ≠ some sureC) → AW γ mX12_usesCondition 1 0 0 21 [(4, vi (k : Int)), (3, vi ab), (2, vi i), (0, vr (some a)), (1, vi b)] [] h (rE (vi 1) (fun h' => gA (gi h' (a + 7)) ab x0 ∧ okA x0 ∧ eqG (SQ a ab (ab + 22)) h h')) := by
  obtain ⟨hka, rq, kq⟩ := hM.q
  have g0 := hg.1
  have l3 := ho.2.1
  obtain ⟨l1, hs, rfl⟩ := r6A_so9 hn
  intro r
  induction r with
  | nil =>
    intro k hd hkl hj
    have hk := List.drop_eq_nil_iff.mp hd
    obtain ⟨j, hj2⟩ := List.getElem?_of_mem hs
    have := lt_of_get hj2
    exact absurd hj2 (hj j (by omega))
  | cons x r ih =>
    intro k hd hkl hj
    obtain ⟨hx, hdr, hlt⟩ := drop_hd hd
    have KC := m_conditionAt (γ := γ) (h := h) (p := ab) (k := (k : Int))
    have KC1 := m_conditionAt (γ := γ) (h := h) (p := ab) (k := (k : Int) + 1)
    have KS := m_isSure (γ := γ) hM (by omega) (ho.2.2 x (List.mem_of_getElem? hx)) (hg.2 k x hx)
    by_cases q : x = sureC
    · rw [if_pos q] at KS
      have e := er_at (c := k) (by rw [← q]; exact hx) hj
      obtain ⟨G, O, E⟩ := gA_hRC hg ho hlt l1
      rw [← e] at G O
      have KM := m_move (γ := γ) (F := ab + 1 + 7 * ((k : Int) + 1)) (T := ab + 1 + 7 * (k : Int)) (n := 7 * (al.length - k - 1)) hM (by omega) (by omega)
      have en : 7 * ((al.length : Int) - (k : Int) - 1) = ((7 * (al.length - k - 1) : Nat) : Int) := by omega
      refine aw_iload dX12_usesCondition_21 rfl ?_
      refine aw_aload_n dX12_usesCondition_23 rfl ?_
      refine aw_getr' (j := 12) dX12_usesCondition_24 fX12_28 rfl (by assumption) rfl (by assumption) ?_
      refine aw_iload_n dX12_usesCondition_27 rfl ?_
      refine aw_iald' dX12_usesCondition_28 (by assumption) (by omega) (by first | decide | omega) g0 ?_
      refine aw_ic_ge (tgt := 105) dX12_usesCondition_29 rfl (by omega) (by omega) (fun c29 => ?_) (fun c29 => ?_)
      · exact absurd c29 (by omega)
      · refine aw_aload_n dX12_usesCondition_32 rfl ?_
        refine aw_iload_n dX12_usesCondition_33 rfl ?_
        refine aw_iload dX12_usesCondition_34 rfl ?_
        refine aw_invS_r dX12_usesCondition_36 sX12_conditionAt kX12_153 rfl (KC) rfl rfl (by decide) (by decide) (by decide) (Nat.le_of_ble_eq_true rfl) ?_
        refine aw_invV_r dX12_usesCondition_39 vX12_isSure kX12_300 rfl (KS) ⟨_, (by assumption), _, _, rfl⟩ rfl rfl (by decide) (by decide) (by decide) (Nat.le_of_ble_eq_true rfl) ?_
        refine aw_if_eq (tgt := 99) dX12_usesCondition_42 rfl (by omega) (fun c42 => ?_) (fun c42 => ?_)
        · exact absurd c42 (by omega)
        · refine aw_aload_n dX12_usesCondition_45 rfl ?_
          refine aw_getr' (j := 12) dX12_usesCondition_46 fX12_28 rfl (by assumption) rfl (by assumption) ?_
          refine aw_iload_n dX12_usesCondition_49 rfl ?_
          refine aw_iald' dX12_usesCondition_50 (by assumption) (by omega) (by first | decide | omega) g0 ?_
          refine aw_iconst dX12_usesCondition_51 ?_
          refine aw_ic_le (tgt := 99) dX12_usesCondition_52 rfl (by omega) (by omega) (fun c52 => ?_) (fun c52 => ?_)
          · exact absurd c52 (by omega)
          · refine aw_aload_n dX12_usesCondition_55 rfl ?_
            refine aw_iload_n dX12_usesCondition_56 rfl ?_
            refine aw_iload dX12_usesCondition_57 rfl ?_
            refine aw_iconst dX12_usesCondition_59 ?_
            refine aw_iadd dX12_usesCondition_60 ?_
            refine aw_invS_r dX12_usesCondition_61 sX12_conditionAt kX12_153 rfl (KC1) rfl rfl (by decide) (by decide) (by decide) (Nat.le_of_ble_eq_true rfl) ?_
            refine aw_iload_n dX12_usesCondition_64 rfl ?_
            refine aw_iload dX12_usesCondition_65 rfl ?_
            refine aw_invS_r dX12_usesCondition_67 sX12_conditionAt kX12_153 rfl (KC) rfl rfl (by decide) (by decide) (by decide) (Nat.le_of_ble_eq_true rfl) ?_
            refine aw_bipush dX12_usesCondition_70 rfl ?_
            refine aw_aload_n dX12_usesCondition_72 rfl ?_
            refine aw_getr' (j := 12) dX12_usesCondition_73 fX12_28 rfl (by assumption) rfl (by assumption) ?_
            refine aw_iload_n dX12_usesCondition_76 rfl ?_
            refine aw_iald' dX12_usesCondition_77 (by assumption) (by omega) (by first | decide | omega) g0 ?_
            refine aw_iload dX12_usesCondition_78 rfl ?_
            refine aw_isub dX12_usesCondition_80 ?_
            refine aw_iconst dX12_usesCondition_81 ?_
            refine aw_isub dX12_usesCondition_82 ?_
            refine aw_imul dX12_usesCondition_83 ?_
            rw [en]
            refine aw_invV_n dX12_usesCondition_84 vX12_move kX12_278 rfl (KM) ⟨_, (by assumption), _, _, rfl⟩ rfl rfl (by decide) (by decide) (by decide) (Nat.le_of_ble_eq_true rfl) ?_
            refine aw_aload_n dX12_usesCondition_87 rfl ?_
            refine aw_getr' (j := 12) dX12_usesCondition_88 fX12_28 rfl (by assumption) rfl (by assumption) ?_
            refine aw_iload_n dX12_usesCondition_91 rfl ?_
            refine aw_dup2 dX12_usesCondition_92 rfl rfl ?_
            refine aw_iald' dX12_usesCondition_93 (by assumption) (by omega) (by first | decide | omega) ((gi_mvo (by omega)).trans g0) ?_
            refine aw_iconst dX12_usesCondition_94 ?_
            refine aw_isub dX12_usesCondition_95 ?_
            refine aw_iast dX12_usesCondition_96 (by assumption) (by omega) (by first | decide | omega) ?_
            refine aw_iconst dX12_usesCondition_97 ?_
            exact aw_zreturn dX12_usesCondition_98 rfl (by omega) (Or.inl rfl) ⟨rfl, G, O, E⟩
    · rw [if_neg q] at KS
      have I := ih (k + 1) hdr (by omega) (fun j hj2 => by
        by_cases z : j = k
        · subst z
          rw [hx]
          exact fun y => q (Option.some.inj y)
        · exact hj j (by omega))
      refine aw_iload dX12_usesCondition_21 rfl ?_
      refine aw_aload_n dX12_usesCondition_23 rfl ?_
      refine aw_getr' (j := 12) dX12_usesCondition_24 fX12_28 rfl (by assumption) rfl (by assumption) ?_
      refine aw_iload_n dX12_usesCondition_27 rfl ?_
      refine aw_iald' dX12_usesCondition_28 (by assumption) (by omega) (by first | decide | omega) g0 ?_
      refine aw_ic_ge (tgt := 105) dX12_usesCondition_29 rfl (by omega) (by omega) (fun c29 => ?_) (fun c29 => ?_)
      · exact absurd c29 (by omega)
      · refine aw_aload_n dX12_usesCondition_32 rfl ?_
        refine aw_iload_n dX12_usesCondition_33 rfl ?_
        refine aw_iload dX12_usesCondition_34 rfl ?_
        refine aw_invS_r dX12_usesCondition_36 sX12_conditionAt kX12_153 rfl (KC) rfl rfl (by decide) (by decide) (by decide) (Nat.le_of_ble_eq_true rfl) ?_
        refine aw_invV_r dX12_usesCondition_39 vX12_isSure kX12_300 rfl (KS) ⟨_, (by assumption), _, _, rfl⟩ rfl rfl (by decide) (by decide) (by decide) (Nat.le_of_ble_eq_true rfl) ?_
        refine aw_if_eq (tgt := 99) dX12_usesCondition_42 rfl (by omega) (fun c42 => ?_) (fun c42 => ?_)
        · refine aw_iinc (k9 := 0) (ls1 := [(4, _), (3, _), (2, _), (0, _), (1, _)]) dX12_usesCondition_99 rfl (by decide) rfl ?_
          refine aw_goto (tgt := 21) dX12_usesCondition_102 rfl ?_
          refine aw_sub [0, 1, 2, 3, 4] rfl ?_
          exact I
        · exact absurd c42 (by omega)
theorem l_uc2 {γ : GG} {h : AH} {a : Nat} {b : Int} {p : TP} (hM : shM h a) (ho : okP p) (hb : 1 ≤ b ∧ b + 67 ≤ 6537) (hg : gP (gi h (a + 7)) b p) : ∀ (r : TP) (k : Nat), p.drop k = r → k ≤ p.length → (∀ j x, j < k → p[j]? = some x → r6A x = none) → AW γ mX12_usesCondition 1 0 0 2 [(2, vi (k : Int)), (0, vr (some a)), (1, vi b)] [] h (r6O h a b (r6P p)) := by
  obtain ⟨hka, rq, kq⟩ := hM.q
  have g0 := hg.1
  have l3 := ho.2.1
  intro r
  induction r with
  | nil =>
    intro k hd hkl hj
    have hk := List.drop_eq_nil_iff.mp hd
    rw [show r6P p = none from fm_none (fun x hx => by
      obtain ⟨j, hj2⟩ := List.getElem?_of_mem hx
      exact hj j x (by have := lt_of_get hj2; omega) hj2)]
    refine aw_iload_n dX12_usesCondition_2 rfl ?_
    refine aw_aload_n dX12_usesCondition_3 rfl ?_
    refine aw_getr' (j := 12) dX12_usesCondition_4 fX12_28 rfl (by assumption) rfl (by assumption) ?_
    refine aw_iload_n dX12_usesCondition_7 rfl ?_
    refine aw_iald' dX12_usesCondition_8 (by assumption) (by omega) (by first | decide | omega) g0 ?_
    refine aw_ic_ge (tgt := 111) dX12_usesCondition_9 rfl (by omega) (by omega) (fun c9 => ?_) (fun c9 => ?_)
    · refine aw_iconst dX12_usesCondition_111 ?_
      exact aw_zreturn dX12_usesCondition_112 rfl (by omega) (Or.inl rfl) ⟨rfl, rfl⟩
    · exact absurd c9 (by omega)
  | cons x r ih =>
    intro k hd hkl hj
    obtain ⟨hx, hdr, hlt⟩ := drop_hd hd
    have ox := ho.2.2 x (List.mem_of_getElem? hx)
    have gx := hg.2 k x hx
    have KC := m_alternativeAt (γ := γ) (h := h) (p := b) (k := (k : Int))
    cases e : r6A x with
    | none =>
      have I := ih (k + 1) hdr (by omega) (fun j y hj2 hy => by
        by_cases z : j = k
        · subst z
          rw [hx] at hy
          cases hy
          exact e
        · exact hj j y (by omega) hy)
      have L := l_uc0 (γ := γ) (h := h) (a := a) (b := b) (ab := b + 1 + 22 * (k : Int)) (i := (k : Int)) (Q := r6O h a b (r6P p)) hM ox (by omega) gx e (by
        refine aw_iinc (k9 := 0) (ls1 := [(2, _), (0, _), (1, _)]) dX12_usesCondition_105 rfl (by decide) rfl ?_
        refine aw_goto (tgt := 2) dX12_usesCondition_108 rfl ?_
        exact I) x 0 rfl (Nat.zero_le _)
      refine aw_iload_n dX12_usesCondition_2 rfl ?_
      refine aw_aload_n dX12_usesCondition_3 rfl ?_
      refine aw_getr' (j := 12) dX12_usesCondition_4 fX12_28 rfl (by assumption) rfl (by assumption) ?_
      refine aw_iload_n dX12_usesCondition_7 rfl ?_
      refine aw_iald' dX12_usesCondition_8 (by assumption) (by omega) (by first | decide | omega) g0 ?_
      refine aw_ic_ge (tgt := 111) dX12_usesCondition_9 rfl (by omega) (by omega) (fun c9 => ?_) (fun c9 => ?_)
      · exact absurd c9 (by omega)
      · refine aw_iload_n dX12_usesCondition_12 rfl ?_
        refine aw_iload_n dX12_usesCondition_13 rfl ?_
        refine aw_invS_r dX12_usesCondition_14 sX12_alternativeAt kX12_159 rfl (KC) rfl rfl (by decide) (by decide) (by decide) (Nat.le_of_ble_eq_true rfl) ?_
        refine aw_istore_n (ls1 := [(3, _), (2, _), (0, _), (1, _)]) dX12_usesCondition_17 (by decide) rfl ?_
        refine aw_iconst dX12_usesCondition_18 ?_
        refine aw_istore (ls1 := [(4, _), (3, _), (2, _), (0, _), (1, _)]) dX12_usesCondition_19 (by decide) rfl ?_
        refine aw_sub [0, 1, 2, 3, 4] rfl ?_
        exact L
    | some y =>
      have ep : r6P p = some (p.set k y) := fm_at hx e (fun j z hj2 hz => hj j z hj2 hz)
      rw [ep]
      have L := l_uc1 (γ := γ) (h := h) (a := a) (b := b) (ab := b + 1 + 22 * (k : Int)) (i := (k : Int)) hM ox (by omega) gx e x 0 rfl (Nat.zero_le _) (fun j hj => absurd hj (by omega))
      have L2 : AW γ mX12_usesCondition 1 0 0 21 [(4, vi ((0 : Nat) : Int)), (3, vi (b + 1 + 22 * (k : Int))), (2, vi (k : Int)), (0, vr (some a)), (1, vi b)] [] h (r6O h a b (some (p.set k y))) := aw_mono (fun r h' hq => by
        obtain ⟨q1, q2, q3, q4⟩ := hq
        obtain ⟨z1, z2⟩ := gP_set hg ho hlt q2 q3 q4
        exact ⟨q1, z1, z2, q4.mono (SQ.mono (by omega) (by omega))⟩) L
      refine aw_iload_n dX12_usesCondition_2 rfl ?_
      refine aw_aload_n dX12_usesCondition_3 rfl ?_
      refine aw_getr' (j := 12) dX12_usesCondition_4 fX12_28 rfl (by assumption) rfl (by assumption) ?_
      refine aw_iload_n dX12_usesCondition_7 rfl ?_
      refine aw_iald' dX12_usesCondition_8 (by assumption) (by omega) (by first | decide | omega) g0 ?_
      refine aw_ic_ge (tgt := 111) dX12_usesCondition_9 rfl (by omega) (by omega) (fun c9 => ?_) (fun c9 => ?_)
      · exact absurd c9 (by omega)
      · refine aw_iload_n dX12_usesCondition_12 rfl ?_
        refine aw_iload_n dX12_usesCondition_13 rfl ?_
        refine aw_invS_r dX12_usesCondition_14 sX12_alternativeAt kX12_159 rfl (KC) rfl rfl (by decide) (by decide) (by decide) (Nat.le_of_ble_eq_true rfl) ?_
        refine aw_istore_n (ls1 := [(3, _), (2, _), (0, _), (1, _)]) dX12_usesCondition_17 (by decide) rfl ?_
        refine aw_iconst dX12_usesCondition_18 ?_
        refine aw_istore (ls1 := [(4, _), (3, _), (2, _), (0, _), (1, _)]) dX12_usesCondition_19 (by decide) rfl ?_
        refine aw_sub [0, 1, 2, 3, 4] rfl ?_
        exact L2
theorem m_usesCondition {γ : GG} {h : AH} {a : Nat} {b : Int} {p : TP} (hM : shM h a) (ho : okP p) (hb : 1 ≤ b ∧ b + 67 ≤ 6537) (hg : gP (gi h (a + 7)) b p) : Call γ mX12_usesCondition 1 0 0 [vr (some a), vi b] h (r6O h a b (r6P p)) := by
  have L := l_uc2 (γ := γ) hM ho hb hg p 0 rfl (Nat.zero_le _) (fun j x hj => absurd hj (by omega))
  refine Call.of (ls := [(0, vr (some a)), (1, vi b)]) vX12_usesCondition.1 (Nat.le_of_ble_eq_true rfl) rfl ?_
  refine aw_iconst dX12_usesCondition_0 ?_
  refine aw_istore_n (ls1 := [(2, _), (0, _), (1, _)]) dX12_usesCondition_1 (by decide) rfl ?_
  refine aw_sub [0, 1, 2] rfl ?_
  exact L
