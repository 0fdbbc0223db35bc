theorem shM_mput {h : AH} {a : Nat} {c : Int} (hM : shM h a) : shM (mput a h c) a := hM
theorem m_putTest {γ : GG} {h : AH} {a : Nat} {x : Int × Int} (hx : okT x) (hM : shM h a) (hl : 0 ≤ gi h a 14 ∧ gi h a 14 + (wTest x).length ≤ 1000) : Call γ mX12_putTest 1 0 0 [vr (some a), vi x.1, vi x.2] h (rN (mputs a h (wTest x))) := by
  obtain ⟨ax, te⟩ := x
  obtain ⟨x1, x2, x3, x4⟩ := hx
  dsimp only at x1 x2 x3 x4 ⊢
  obtain ⟨n, rfl⟩ := Int.eq_ofNat_of_zero_le x1
  have hk := hM.1
  have el : (if te = 8 then (42 : Int) else 97 + te) = if te = 8 then 42 else 97 + te := rfl
  by_cases q : n = 0
  · subst q
    have e : wTest (((0 : Nat) : Int), te) = [if te = 8 then 42 else 97 + te] := rfl
    rw [e] at hl ⊢
    simp only [List.length_singleton] at hl
    by_cases q8 : te = 8
    · rw [if_pos q8]
      refine Call.of (ls := [(0, vr (some a)), (1, vi ((0 : Nat) : Int)), (2, vi te)]) vX12_putTest.1 (Nat.le_of_ble_eq_true rfl) rfl ?_
      refine aw_iload_n dX12_putTest_0 rfl ?_
      refine aw_if_le (tgt := 12) dX12_putTest_1 rfl (by omega) (fun c1 => ?_) (fun c1 => ?_)
      · refine aw_aload_n dX12_putTest_12 rfl ?_
        refine aw_iload_n dX12_putTest_13 rfl ?_
        refine aw_bipush dX12_putTest_14 rfl ?_
        refine aw_ic_ne (tgt := 24) dX12_putTest_16 rfl (by omega) (by omega) (fun c16 => ?_) (fun c16 => ?_)
        · exact absurd c16 (by omega)
        · refine aw_bipush dX12_putTest_19 rfl ?_
          refine aw_goto (tgt := 28) dX12_putTest_21 rfl ?_
          refine aw_invV_n dX12_putTest_28 vX12_put kX12_192 rfl (m_put hM (by omega)) ⟨_, (by assumption), _, _, rfl⟩ rfl rfl (by decide) (by decide) (by decide) (Nat.le_of_ble_eq_true rfl) ?_
          exact aw_return dX12_putTest_31 rfl (Or.inl rfl) ⟨rfl, rfl⟩
      · exact absurd c1 (by omega)
    · rw [if_neg q8]
      refine Call.of (ls := [(0, vr (some a)), (1, vi ((0 : Nat) : Int)), (2, vi te)]) vX12_putTest.1 (Nat.le_of_ble_eq_true rfl) rfl ?_
      refine aw_iload_n dX12_putTest_0 rfl ?_
      refine aw_if_le (tgt := 12) dX12_putTest_1 rfl (by omega) (fun c1 => ?_) (fun c1 => ?_)
      · refine aw_aload_n dX12_putTest_12 rfl ?_
        refine aw_iload_n dX12_putTest_13 rfl ?_
        refine aw_bipush dX12_putTest_14 rfl ?_
        refine aw_ic_ne (tgt := 24) dX12_putTest_16 rfl (by omega) (by omega) (fun c16 => ?_) (fun c16 => ?_)
        · refine aw_bipush dX12_putTest_24 rfl ?_
          refine aw_iload_n dX12_putTest_26 rfl ?_
          refine aw_iadd dX12_putTest_27 ?_
          refine aw_invV_n dX12_putTest_28 vX12_put kX12_192 rfl (m_put hM (by omega)) ⟨_, (by assumption), _, _, rfl⟩ rfl rfl (by decide) (by decide) (by decide) (Nat.le_of_ble_eq_true rfl) ?_
          exact aw_return dX12_putTest_31 rfl (Or.inl rfl) ⟨rfl, rfl⟩
        · exact absurd c16 (by omega)
      · exact absurd c1 (by omega)
  · have e : wTest ((n : Int), te) = [ax_s.getD (n - 1) 0, if te = 8 then 42 else 97 + te] := by
      unfold wTest
      dsimp only
      rw [if_pos (by omega), show ((n : Int) - 1).toNat = n - 1 by omega]
      rfl
    rw [e] at hl ⊢
    simp only [List.length_cons, List.length_nil] at hl
    have KS := m_signOf (γ := γ) (h := h) (x := n) (by omega)
    have K1 := m_put (γ := γ) (v := ax_s.getD (n - 1) 0) hM (by omega)
    have g1 : gi (mput a h (ax_s.getD (n - 1) 0)) a 14 = gi h a 14 + 1 := by unfold mput; rw [gi_at rfl rfl]
    change Call γ mX12_put 0 0 0 _ h (rN (mput a h (ax_s.getD (n - 1) 0))) at K1
    by_cases q8 : te = 8
    · rw [if_pos q8]
      refine Call.of (ls := [(0, vr (some a)), (1, vi (n : Int)), (2, vi te)]) vX12_putTest.1 (Nat.le_of_ble_eq_true rfl) rfl ?_
      refine aw_iload_n dX12_putTest_0 rfl ?_
      refine aw_if_le (tgt := 12) dX12_putTest_1 rfl (by omega) (fun c1 => ?_) (fun c1 => ?_)
      · exact absurd c1 (by omega)
      · refine aw_aload_n dX12_putTest_4 rfl ?_
        refine aw_iload_n dX12_putTest_5 rfl ?_
        refine aw_invS_r dX12_putTest_6 sX12_signOf kX12_189 rfl (KS) rfl rfl (by decide) (by decide) (by decide) (Nat.le_of_ble_eq_true rfl) ?_
        refine aw_invV_n dX12_putTest_9 vX12_put kX12_192 rfl (K1) ⟨_, (by assumption), _, _, rfl⟩ rfl rfl (by decide) (by decide) (by decide) (Nat.le_of_ble_eq_true rfl) ?_
        refine aw_aload_n dX12_putTest_12 rfl ?_
        refine aw_iload_n dX12_putTest_13 rfl ?_
        refine aw_bipush dX12_putTest_14 rfl ?_
        refine aw_ic_ne (tgt := 24) dX12_putTest_16 rfl (by omega) (by omega) (fun c16 => ?_) (fun c16 => ?_)
        · exact absurd c16 (by omega)
        · refine aw_bipush dX12_putTest_19 rfl ?_
          refine aw_goto (tgt := 28) dX12_putTest_21 rfl ?_
          refine aw_invV_n dX12_putTest_28 vX12_put kX12_192 rfl (m_put (shM_mput hM) (by omega)) ⟨_, (by exact hk), _, _, rfl⟩ rfl rfl (by decide) (by decide) (by decide) (Nat.le_of_ble_eq_true rfl) ?_
          exact aw_return dX12_putTest_31 rfl (Or.inl rfl) ⟨rfl, rfl⟩
    · rw [if_neg q8]
      refine Call.of (ls := [(0, vr (some a)), (1, vi (n : Int)), (2, vi te)]) vX12_putTest.1 (Nat.le_of_ble_eq_true rfl) rfl ?_
      refine aw_iload_n dX12_putTest_0 rfl ?_
      refine aw_if_le (tgt := 12) dX12_putTest_1 rfl (by omega) (fun c1 => ?_) (fun c1 => ?_)
      · exact absurd c1 (by omega)
      · refine aw_aload_n dX12_putTest_4 rfl ?_
        refine aw_iload_n dX12_putTest_5 rfl ?_
        refine aw_invS_r dX12_putTest_6 sX12_signOf kX12_189 rfl (KS) rfl rfl (by decide) (by decide) (by decide) (Nat.le_of_ble_eq_true rfl) ?_
        refine aw_invV_n dX12_putTest_9 vX12_put kX12_192 rfl (K1) ⟨_, (by assumption), _, _, rfl⟩ rfl rfl (by decide) (by decide) (by decide) (Nat.le_of_ble_eq_true rfl) ?_
        refine aw_aload_n dX12_putTest_12 rfl ?_
        refine aw_iload_n dX12_putTest_13 rfl ?_
        refine aw_bipush dX12_putTest_14 rfl ?_
        refine aw_ic_ne (tgt := 24) dX12_putTest_16 rfl (by omega) (by omega) (fun c16 => ?_) (fun c16 => ?_)
        · refine aw_bipush dX12_putTest_24 rfl ?_
          refine aw_iload_n dX12_putTest_26 rfl ?_
          refine aw_iadd dX12_putTest_27 ?_
          refine aw_invV_n dX12_putTest_28 vX12_put kX12_192 rfl (m_put (shM_mput hM) (by omega)) ⟨_, (by exact hk), _, _, rfl⟩ rfl rfl (by decide) (by decide) (by decide) (Nat.le_of_ble_eq_true rfl) ?_
          exact aw_return dX12_putTest_31 rfl (Or.inl rfl) ⟨rfl, rfl⟩
        · exact absurd c16 (by omega)
