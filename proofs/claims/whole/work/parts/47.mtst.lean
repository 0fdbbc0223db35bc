/-! ===== the model: readTest, readShort, readAtom ===== -/
theorem si_self {h : AH} {a : Nat} {j v : Int} (e : gi h a j = v) : si h a j v = h := by
  subst e
  have : (fun (b : Nat) (k : Int) => if b = a ∧ k = j then gi h a j else h.2.1 b k) = h.2.1 := by
    funext b k
    split
    · next q => obtain ⟨rfl, rfl⟩ := q; rfl
    · rfl
  unfold si
  rw [this]
theorem isX.q {h : AH} {a : Nat} {f : Nat → Nat} {n : Nat} (hX : isX h a f n) : kd h a = some (.inl 11) ∧ gr h a 12 = some (a + 7) ∧ kd h (a + 7) = some (.inr (1, 6537)) := by
  obtain ⟨⟨hk, -, -, -, -, -, -, hq, -⟩, -⟩ := hX
  exact ⟨hk, hq.1, hq.2⟩
theorem m_hereX {γ : GG} {h : AH} {a k n : Nat} {f : Nat → Nat} (hX : isX h a f n) (hk : gi h a 11 = k) (hkn : k ≤ n) : Call γ mX12_here 0 0 0 [vr (some a)] h (rV (vi (hr9 f n k)) h) := by
  have K := m_here (γ := γ) hX.1 (by rw [hk, hX.2.1]; have := hX.2.2.1; omega)
  have e := mHere_eq hX hk
  unfold mHere at e
  rw [e] at K
  exact K
theorem m_takes1 {γ : GG} {h : AH} {a k n : Nat} {f : Nat → Nat} {c : Int} (hX : isX h a f n) (hk : gi h a 11 = k) (hkn : k ≤ n) (hc : 0 ≤ c ∧ c ≤ 127) (hq : hr9 f n k = c) : Call γ mX12_takes 1 0 0 [vr (some a), vi c] h (rV (vi 1) (si h a 11 (k + 1))) := by
  have e := mHere_eq hX hk
  have K := m_takes (γ := γ) (c := c) hX.1 (by rw [hk, hX.2.1]; have := hX.2.2.1; omega) (by omega) (by rw [e]; have := hr9_bd hX.2.2.2.2 n k; omega)
  rw [e, if_pos hq, hk] at K
  exact K
theorem m_takes0 {γ : GG} {h : AH} {a k n : Nat} {f : Nat → Nat} {c : Int} (hX : isX h a f n) (hk : gi h a 11 = k) (hkn : k ≤ n) (hc : 0 ≤ c ∧ c ≤ 127) (hq : hr9 f n k ≠ c) : Call γ mX12_takes 1 0 0 [vr (some a), vi c] h (rV (vi 0) h) := by
  have e := mHere_eq hX hk
  have K := m_takes (γ := γ) (c := c) hX.1 (by rw [hk, hX.2.1]; have := hX.2.2.1; omega) (by omega) (by rw [e]; have := hr9_bd hX.2.2.2.2 n k; omega)
  rw [e, if_neg hq, hk, Int.add_zero, si_self hk] at K
  exact K
def rtX (f : Nat → Nat) (n k : Nat) : Int := if k < n then axN (f k) else 0
def rtK (f : Nat → Nat) (n k : Nat) : Nat := if 0 < rtX f n k then k + 1 else k
def rtT (f : Nat → Nat) (n k : Nat) : Int := if rtK f n k < n then teN (f (rtK f n k)) else -1
def teI (c : Int) : Int := if c = 42 then 8 else if 97 ≤ c ∧ c < 105 then c - 97 else -1
theorem teI_eq (f : Nat → Nat) (n k : Nat) : (if k < n then teN (f k) else -1) = teI (hr9 f n k) := by
  unfold teI hr9 teN
  by_cases q : k < n
  · rw [if_pos q, if_pos q]
    by_cases q1 : f k = 42
    · rw [if_pos q1, if_pos (by omega)]
    · rw [if_neg q1, if_neg (show ¬ ((f k : Int) = 42) by omega)]
      by_cases q2 : 97 ≤ f k ∧ f k < 105
      · rw [if_pos q2, if_pos (show 97 ≤ (f k : Int) ∧ (f k : Int) < 105 by omega)]
      · rw [if_neg q2, if_neg (show ¬ (97 ≤ (f k : Int) ∧ (f k : Int) < 105) by omega)]
  · rw [if_neg q, if_neg q]
    decide
theorem m_axisX {γ : GG} {h : AH} {k n : Nat} {f : Nat → Nat} (hf : ∀ k, f k < 128) : Call γ mX12_axisBy 0 0 0 [vi (hr9 f n k)] h (rV (vi (rtX f n k)) h) := by
  unfold hr9 rtX
  by_cases q : k < n
  · rw [if_pos q, if_pos q]; exact m_axisBy (hf k)
  · rw [if_neg q, if_neg q]; exact m_axisBy0
theorem SR_at {a : Nat} {lo hi : Int} : SR a lo hi a 11 := Or.inl ⟨rfl, rfl⟩
theorem l_rt26 {γ : GG} {h : AH} {a k n : Nat} {f : Nat → Nat} {x : Int} (hX : isX h a f n) (hk : gi h a 11 = k) (hkn : k ≤ n) (hx : 0 ≤ x ∧ x ≤ 9) : AW γ mX12_readTest 2 0 0 26 [(1, vi x), (0, vr (some a))] [] h (rE (vi (if teI (hr9 f n k) = -1 then -1 else 10 * x + teI (hr9 f n k))) (fun h' => eqG (SR a 0 0) h h' ∧ gi h' a 11 = if teI (hr9 f n k) = -1 then (k : Int) else k + 1)) := by
  obtain ⟨hka, -, -⟩ := hX.q
  have K := m_hereX (γ := γ) hX hk hkn
  have bc := hr9_bd hX.2.2.2.2 n k
  have b4 := hX.2.2.1
  have KI := m_in (γ := γ) (h := h) (v := hr9 f n k) (l := 97) (m := 104) (by omega) (by omega) (by omega)
  by_cases q1 : 97 ≤ hr9 f n k ∧ hr9 f n k ≤ 104
  · have eT : teI (hr9 f n k) = hr9 f n k - 97 := by unfold teI; rw [if_neg (by omega), if_pos (by omega)]
    rw [if_pos q1] at KI
    rw [eT, if_neg (by omega), if_neg (by omega)]
    refine aw_aload_n dX12_readTest_26 rfl ?_
    refine aw_invV_r dX12_readTest_27 vX12_here kX12_137 rfl (K) ⟨_, (by assumption), _, _, rfl⟩ rfl rfl (by decide) (by decide) (by decide) (Nat.le_of_ble_eq_true rfl) ?_
    refine aw_istore_n (ls1 := [(2, _), (1, _), (0, _)]) dX12_readTest_30 (by decide) rfl ?_
    refine aw_iload_n dX12_readTest_31 rfl ?_
    refine aw_bipush dX12_readTest_32 rfl ?_
    refine aw_bipush dX12_readTest_34 rfl ?_
    refine aw_invS_r dX12_readTest_36 sX12_in kX12_69 rfl (KI) rfl rfl (by decide) (by decide) (by decide) (Nat.le_of_ble_eq_true rfl) ?_
    refine aw_if_eq (tgt := 49) dX12_readTest_39 rfl (by omega) (fun c39 => ?_) (fun c39 => ?_)
    · exact absurd c39 (by omega)
    · refine aw_iload_n dX12_readTest_42 rfl ?_
      refine aw_bipush dX12_readTest_43 rfl ?_
      refine aw_isub dX12_readTest_45 ?_
      refine aw_goto (tgt := 61) dX12_readTest_46 rfl ?_
      refine aw_istore_n (ls1 := [(3, _), (2, _), (1, _), (0, _)]) dX12_readTest_61 (by decide) rfl ?_
      refine aw_aload_n dX12_readTest_62 rfl ?_
      refine aw_dup dX12_readTest_63 rfl ?_
      refine aw_geti' (j := 11) dX12_readTest_64 fX12_131 rfl (by assumption) rfl hk ?_
      refine aw_iload_n dX12_readTest_67 rfl ?_
      refine aw_iconst dX12_readTest_68 ?_
      refine aw_ic_ne (tgt := 76) dX12_readTest_69 rfl (by omega) (by omega) (fun c69 => ?_) (fun c69 => ?_)
      · refine aw_iconst dX12_readTest_76 ?_
        refine aw_iadd dX12_readTest_77 ?_
        refine aw_puti' (j := 11) rfl dX12_readTest_78 fX12_131 (by assumption) rfl ?_
        refine aw_iload_n dX12_readTest_81 rfl ?_
        refine aw_iconst dX12_readTest_82 ?_
        refine aw_ic_ne (tgt := 90) dX12_readTest_83 rfl (by omega) (by omega) (fun c83 => ?_) (fun c83 => ?_)
        · refine aw_bipush dX12_readTest_90 rfl ?_
          refine aw_iload_n dX12_readTest_92 rfl ?_
          refine aw_imul dX12_readTest_93 ?_
          refine aw_iload_n dX12_readTest_94 rfl ?_
          refine aw_iadd dX12_readTest_95 ?_
          exact aw_ireturn dX12_readTest_96 rfl (Or.inl rfl) ⟨rfl, eqG.si SR_at, gi_at rfl rfl⟩
        · exact absurd c83 (by omega)
      · exact absurd c69 (by omega)
  · rw [if_neg q1] at KI
    by_cases q2 : hr9 f n k = 42
    · have eT : teI (hr9 f n k) = 8 := by unfold teI; rw [if_pos q2]
      rw [eT, if_neg (by omega), if_neg (by omega)]
      refine aw_aload_n dX12_readTest_26 rfl ?_
      refine aw_invV_r dX12_readTest_27 vX12_here kX12_137 rfl (K) ⟨_, (by assumption), _, _, rfl⟩ rfl rfl (by decide) (by decide) (by decide) (Nat.le_of_ble_eq_true rfl) ?_
      refine aw_istore_n (ls1 := [(2, _), (1, _), (0, _)]) dX12_readTest_30 (by decide) rfl ?_
      refine aw_iload_n dX12_readTest_31 rfl ?_
      refine aw_bipush dX12_readTest_32 rfl ?_
      refine aw_bipush dX12_readTest_34 rfl ?_
      refine aw_invS_r dX12_readTest_36 sX12_in kX12_69 rfl (KI) rfl rfl (by decide) (by decide) (by decide) (Nat.le_of_ble_eq_true rfl) ?_
      refine aw_if_eq (tgt := 49) dX12_readTest_39 rfl (by omega) (fun c39 => ?_) (fun c39 => ?_)
      · refine aw_iload_n dX12_readTest_49 rfl ?_
        refine aw_bipush dX12_readTest_50 rfl ?_
        refine aw_ic_ne (tgt := 60) dX12_readTest_52 rfl (by omega) (by omega) (fun c52 => ?_) (fun c52 => ?_)
        · exact absurd c52 (by omega)
        · refine aw_bipush dX12_readTest_55 rfl ?_
          refine aw_goto (tgt := 61) dX12_readTest_57 rfl ?_
          refine aw_istore_n (ls1 := [(3, _), (2, _), (1, _), (0, _)]) dX12_readTest_61 (by decide) rfl ?_
          refine aw_aload_n dX12_readTest_62 rfl ?_
          refine aw_dup dX12_readTest_63 rfl ?_
          refine aw_geti' (j := 11) dX12_readTest_64 fX12_131 rfl (by assumption) rfl hk ?_
          refine aw_iload_n dX12_readTest_67 rfl ?_
          refine aw_iconst dX12_readTest_68 ?_
          refine aw_ic_ne (tgt := 76) dX12_readTest_69 rfl (by omega) (by omega) (fun c69 => ?_) (fun c69 => ?_)
          · refine aw_iconst dX12_readTest_76 ?_
            refine aw_iadd dX12_readTest_77 ?_
            refine aw_puti' (j := 11) rfl dX12_readTest_78 fX12_131 (by assumption) rfl ?_
            refine aw_iload_n dX12_readTest_81 rfl ?_
            refine aw_iconst dX12_readTest_82 ?_
            refine aw_ic_ne (tgt := 90) dX12_readTest_83 rfl (by omega) (by omega) (fun c83 => ?_) (fun c83 => ?_)
            · refine aw_bipush dX12_readTest_90 rfl ?_
              refine aw_iload_n dX12_readTest_92 rfl ?_
              refine aw_imul dX12_readTest_93 ?_
              refine aw_iload_n dX12_readTest_94 rfl ?_
              refine aw_iadd dX12_readTest_95 ?_
              exact aw_ireturn dX12_readTest_96 rfl (Or.inl rfl) ⟨rfl, eqG.si SR_at, gi_at rfl rfl⟩
            · exact absurd c83 (by omega)
          · exact absurd c69 (by omega)
      · exact absurd c39 (by omega)
    · have eT : teI (hr9 f n k) = -1 := by unfold teI; rw [if_neg q2, if_neg (by omega)]
      rw [eT, if_pos rfl, if_pos rfl]
      refine aw_aload_n dX12_readTest_26 rfl ?_
      refine aw_invV_r dX12_readTest_27 vX12_here kX12_137 rfl (K) ⟨_, (by assumption), _, _, rfl⟩ rfl rfl (by decide) (by decide) (by decide) (Nat.le_of_ble_eq_true rfl) ?_
      refine aw_istore_n (ls1 := [(2, _), (1, _), (0, _)]) dX12_readTest_30 (by decide) rfl ?_
      refine aw_iload_n dX12_readTest_31 rfl ?_
      refine aw_bipush dX12_readTest_32 rfl ?_
      refine aw_bipush dX12_readTest_34 rfl ?_
      refine aw_invS_r dX12_readTest_36 sX12_in kX12_69 rfl (KI) rfl rfl (by decide) (by decide) (by decide) (Nat.le_of_ble_eq_true rfl) ?_
      refine aw_if_eq (tgt := 49) dX12_readTest_39 rfl (by omega) (fun c39 => ?_) (fun c39 => ?_)
      · refine aw_iload_n dX12_readTest_49 rfl ?_
        refine aw_bipush dX12_readTest_50 rfl ?_
        refine aw_ic_ne (tgt := 60) dX12_readTest_52 rfl (by omega) (by omega) (fun c52 => ?_) (fun c52 => ?_)
        · refine aw_iconst dX12_readTest_60 ?_
          refine aw_istore_n (ls1 := [(3, _), (2, _), (1, _), (0, _)]) dX12_readTest_61 (by decide) rfl ?_
          refine aw_aload_n dX12_readTest_62 rfl ?_
          refine aw_dup dX12_readTest_63 rfl ?_
          refine aw_geti' (j := 11) dX12_readTest_64 fX12_131 rfl (by assumption) rfl hk ?_
          refine aw_iload_n dX12_readTest_67 rfl ?_
          refine aw_iconst dX12_readTest_68 ?_
          refine aw_ic_ne (tgt := 76) dX12_readTest_69 rfl (by omega) (by omega) (fun c69 => ?_) (fun c69 => ?_)
          · exact absurd c69 (by omega)
          · refine aw_iconst dX12_readTest_72 ?_
            refine aw_goto (tgt := 77) dX12_readTest_73 rfl ?_
            refine aw_iadd dX12_readTest_77 ?_
            refine aw_puti' (j := 11) rfl dX12_readTest_78 fX12_131 (by assumption) rfl ?_
            refine aw_iload_n dX12_readTest_81 rfl ?_
            refine aw_iconst dX12_readTest_82 ?_
            refine aw_ic_ne (tgt := 90) dX12_readTest_83 rfl (by omega) (by omega) (fun c83 => ?_) (fun c83 => ?_)
            · exact absurd c83 (by omega)
            · refine aw_iconst dX12_readTest_86 ?_
              refine aw_goto (tgt := 96) dX12_readTest_87 rfl ?_
              exact aw_ireturn dX12_readTest_96 rfl (Or.inl rfl) ⟨rfl, eqG.si SR_at, (gi_at rfl rfl).trans (by omega)⟩
        · exact absurd c52 (by omega)
      · exact absurd c39 (by omega)
theorem m_readTest {γ : GG} {h : AH} {a k n : Nat} {f : Nat → Nat} (hX : isX h a f n) (hk : gi h a 11 = k) (hkn : k ≤ n) : Call γ mX12_readTest 2 0 0 [vr (some a)] h (rE (vi (if rtT f n k = -1 then -1 else 10 * rtX f n k + rtT f n k)) (fun h' => eqG (SR a 0 0) h h' ∧ gi h' a 11 = if rtT f n k = -1 then (rtK f n k : Int) else rtK f n k + 1)) := by
  obtain ⟨hka, -, -⟩ := hX.q
  have b4 := hX.2.2.1
  have K := m_hereX (γ := γ) hX hk hkn
  have KA := m_axisX (γ := γ) (h := h) (k := k) (n := n) hX.2.2.2.2
  have bx : 0 ≤ rtX f n k ∧ rtX f n k ≤ 9 := by unfold rtX; split; exact axN_bd _ (hX.2.2.2.2 k); decide
  have eT : rtT f n k = teI (hr9 f n (rtK f n k)) := teI_eq f n (rtK f n k)
  rw [eT]
  have eX := (eqG.si (h := h) (v := (rtK f n k : Int)) (SR_at (a := a) (lo := 0) (hi := 0)))
  have kn : rtK f n k ≤ n := by
    unfold rtK
    split
    · next q => unfold rtX at q; split at q <;> omega
    · exact hkn
  have KL := l_rt26 (γ := γ) (x := rtX f n k) (hX.eq eX) (gi_at rfl rfl) kn bx
  have KL' : AW γ mX12_readTest 2 0 0 26 [(1, vi (rtX f n k)), (0, vr (some a))] [] (si h a 11 (rtK f n k)) (rE (vi (if teI (hr9 f n (rtK f n k)) = -1 then -1 else 10 * rtX f n k + teI (hr9 f n (rtK f n k)))) (fun h' => eqG (SR a 0 0) h h' ∧ gi h' a 11 = if teI (hr9 f n (rtK f n k)) = -1 then (rtK f n k : Int) else rtK f n k + 1)) := aw_mono (fun r h' hq => ⟨hq.1, eX.tr hq.2.1, hq.2.2⟩) KL
  by_cases q : 0 < rtX f n k
  · have e : rtK f n k = k + 1 := by unfold rtK; rw [if_pos q]
    rw [e] at KL'
    rw [e]
    refine Call.of (ls := [(0, vr (some a))]) vX12_readTest.1 (Nat.le_of_ble_eq_true rfl) rfl ?_
    refine aw_aload_n dX12_readTest_0 rfl ?_
    refine aw_invV_r dX12_readTest_1 vX12_here kX12_137 rfl (K) ⟨_, (by assumption), _, _, rfl⟩ rfl rfl (by decide) (by decide) (by decide) (Nat.le_of_ble_eq_true rfl) ?_
    refine aw_invS_r dX12_readTest_4 sX12_axisBy kX12_141 rfl (KA) rfl rfl (by decide) (by decide) (by decide) (Nat.le_of_ble_eq_true rfl) ?_
    refine aw_istore_n (ls1 := [(1, _), (0, _)]) dX12_readTest_7 (by decide) rfl ?_
    refine aw_aload_n dX12_readTest_8 rfl ?_
    refine aw_dup dX12_readTest_9 rfl ?_
    refine aw_geti' (j := 11) dX12_readTest_10 fX12_131 rfl (by assumption) rfl hk ?_
    refine aw_iload_n dX12_readTest_13 rfl ?_
    refine aw_if_le (tgt := 21) dX12_readTest_14 rfl (by omega) (fun c14 => ?_) (fun c14 => ?_)
    · exact absurd c14 (by omega)
    · refine aw_iconst dX12_readTest_17 ?_
      refine aw_goto (tgt := 22) dX12_readTest_18 rfl ?_
      refine aw_iadd dX12_readTest_22 ?_
      refine aw_puti' (j := 11) rfl dX12_readTest_23 fX12_131 (by assumption) rfl ?_
      refine aw_sub [0, 1] rfl ?_
      exact KL'
  · have e : rtK f n k = k := by unfold rtK; rw [if_neg q]
    rw [e] at KL'
    rw [e]
    refine Call.of (ls := [(0, vr (some a))]) vX12_readTest.1 (Nat.le_of_ble_eq_true rfl) rfl ?_
    refine aw_aload_n dX12_readTest_0 rfl ?_
    refine aw_invV_r dX12_readTest_1 vX12_here kX12_137 rfl (K) ⟨_, (by assumption), _, _, rfl⟩ rfl rfl (by decide) (by decide) (by decide) (Nat.le_of_ble_eq_true rfl) ?_
    refine aw_invS_r dX12_readTest_4 sX12_axisBy kX12_141 rfl (KA) rfl rfl (by decide) (by decide) (by decide) (Nat.le_of_ble_eq_true rfl) ?_
    refine aw_istore_n (ls1 := [(1, _), (0, _)]) dX12_readTest_7 (by decide) rfl ?_
    refine aw_aload_n dX12_readTest_8 rfl ?_
    refine aw_dup dX12_readTest_9 rfl ?_
    refine aw_geti' (j := 11) dX12_readTest_10 fX12_131 rfl (by assumption) rfl hk ?_
    refine aw_iload_n dX12_readTest_13 rfl ?_
    refine aw_if_le (tgt := 21) dX12_readTest_14 rfl (by omega) (fun c14 => ?_) (fun c14 => ?_)
    · refine aw_iconst dX12_readTest_21 ?_
      refine aw_iadd dX12_readTest_22 ?_
      refine aw_puti' (j := 11) rfl dX12_readTest_23 fX12_131 (by assumption) rfl ?_
      refine aw_sub [0, 1] rfl ?_
      rw [Int.add_zero]
      exact KL'
    · exact absurd c14 (by omega)
theorem rtX_bd {f : Nat → Nat} (hf : ∀ k, f k < 128) (n k : Nat) : 0 ≤ rtX f n k ∧ rtX f n k ≤ 9 := by
  unfold rtX
  split
  · exact axN_bd _ (hf k)
  · decide
theorem rtT_bd (f : Nat → Nat) (n k : Nat) : rtT f n k = -1 ∨ (0 ≤ rtT f n k ∧ rtT f n k ≤ 8) := by
  unfold rtT
  split
  · exact teN_bd
  · left; rfl
theorem acc_stp {ch st : Nat} {ax : Int} {Q : TQ} {T : Bool × List TS} {s : TS} {kk : TP × TA × TC} (h : st = 2 ∨ (st ≤ 1 ∧ ch ≠ 47)) : acc ch (st, ax, Q, T, s, kk) = a_stp ch Q T := by
  obtain ⟨pr, al, c⟩ := kk
  match st, h with
  | 0, h => simp only [acc]; rw [if_neg (by omega)]
  | 1, h => simp only [acc]; rw [if_neg (by omega)]
  | 2, _ => rfl
  | n + 3, h => exact absurd h (by omega)
theorem rt_step {f : Nat → Nat} {n k st : Nat} {ax : Int} {Q : TQ} {T : Bool × List TS} {s : TS} {kk : TP × TA × TC} (hf : ∀ k, f k < 128) (hkn : k ≤ n) (hl : T.2.length < 8) (h : st = 2 ∨ (st ≤ 1 ∧ hr9 f n k ≠ 47)) : (rtT f n k = -1 → ∃ z', Rc f n k (st, ax, Q, T, s, kk) (rtK f n k) z' ∧ stk f n (rtK f n k) z') ∧ (rtT f n k ≠ -1 → Rc f n k (st, ax, Q, T, s, kk) (rtK f n k + 1) (4, 0, Q, T, ((rtX f n k, rtT f n k), []), k0)) := by
  have bx := rtX_bd hf n k
  by_cases q : k < n
  · have ea : acc (f k) (st, ax, Q, T, s, kk) = a_stp (f k) Q T := acc_stp (by
      rcases h with h | ⟨h1, h2⟩
      · exact Or.inl h
      · refine Or.inr ⟨h1, fun h3 => h2 ?_⟩
        unfold hr9
        rw [if_pos q, h3]
        rfl)
    have ex : rtX f n k = axN (f k) := by unfold rtX; rw [if_pos q]
    have e1 : a_stp (f k) Q T = if axN (f k) = 0 then a_tst (teN (f k)) 0 Q T else some (3, axN (f k), Q, T, s0, k0) := by unfold a_stp; rw [if_neg (by omega)]
    by_cases q2 : axN (f k) = 0
    · have eK : rtK f n k = k := by unfold rtK; rw [if_neg (by omega)]
      have eT : rtT f n k = teN (f k) := by unfold rtT; rw [eK, if_pos q]
      rw [if_pos q2] at e1
      rw [eK, eT, ex, q2]
      constructor
      · intro t
        refine ⟨_, Rc.rf hkn, Or.inl ⟨q, ?_⟩⟩
        rw [ea, e1]
        unfold a_tst
        rw [if_pos t]
      · intro t
        refine Rc.one q ?_
        rw [ea, e1]
        unfold a_tst
        rw [if_neg t]
    · have eK : rtK f n k = k + 1 := by unfold rtK; rw [if_pos (by omega)]
      rw [if_neg q2] at e1
      have r1 : Rc f n k (st, ax, Q, T, s, kk) (k + 1) (3, axN (f k), Q, T, s0, k0) := Rc.one q (ea.trans e1)
      rw [eK, ex]
      by_cases q3 : k + 1 < n
      · have eT : rtT f n k = teN (f (k + 1)) := by unfold rtT; rw [eK, if_pos q3]
        rw [eT]
        constructor
        · intro t
          refine ⟨_, r1, Or.inl ⟨q3, ?_⟩⟩
          show a_tst (teN (f (k + 1))) (axN (f k)) Q T = none
          unfold a_tst
          rw [if_pos t]
        · intro t
          refine r1.tr (Rc.one q3 ?_)
          show a_tst (teN (f (k + 1))) (axN (f k)) Q T = _
          unfold a_tst
          rw [if_neg t]
      · have eT : rtT f n k = -1 := by unfold rtT; rw [eK, if_neg q3]
        exact ⟨fun _ => ⟨_, r1, Or.inr ⟨by omega, by simp⟩⟩, fun t => absurd eT t⟩
  · have ex : rtX f n k = 0 := by unfold rtX; rw [if_neg q]
    have eK : rtK f n k = k := by unfold rtK; rw [if_neg (by omega)]
    have eT : rtT f n k = -1 := by unfold rtT; rw [eK, if_neg q]
    rw [eK]
    exact ⟨fun _ => ⟨_, Rc.rf hkn, Or.inr ⟨by omega, by simp only; omega⟩⟩, fun t => absurd eT t⟩
theorem rt_short {f : Nat → Nat} {n k : Nat} {ax : Int} {Q : TQ} {T : Bool × List TS} {s : TS} {pr : TP} {al : TA} {c : TC} (hf : ∀ k, f k < 128) (hkn : k ≤ n) : (rtT f n k = -1 → ∃ z', Rc f n k (8, ax, Q, T, s, pr, al, c) (rtK f n k) z' ∧ stk f n (rtK f n k) z') ∧ (rtT f n k ≠ -1 → Rc f n k (8, ax, Q, T, s, pr, al, c) (rtK f n k + 1) (10, 0, Q, T, s, pr, al, c.1, 3, 0, c.2.2.2 ++ [(rtX f n k, rtT f n k)])) := by
  have bx := rtX_bd hf n k
  by_cases q : k < n
  · have ex : rtX f n k = axN (f k) := by unfold rtX; rw [if_pos q]
    have e1 : acc (f k) (8, ax, Q, T, s, pr, al, c) = if axN (f k) = 0 then a_stt (teN (f k)) 0 Q T s pr al c else some (9, axN (f k), Q, T, s, pr, al, c) := rfl
    by_cases q2 : axN (f k) = 0
    · have eK : rtK f n k = k := by unfold rtK; rw [if_neg (by omega)]
      have eT : rtT f n k = teN (f k) := by unfold rtT; rw [eK, if_pos q]
      rw [if_pos q2] at e1
      rw [eK, eT, ex, q2]
      constructor
      · intro t
        refine ⟨_, Rc.rf hkn, Or.inl ⟨q, ?_⟩⟩
        rw [e1]
        unfold a_stt
        rw [if_pos t]
      · intro t
        refine Rc.one q ?_
        rw [e1]
        unfold a_stt
        rw [if_neg t]
    · have eK : rtK f n k = k + 1 := by unfold rtK; rw [if_pos (by omega)]
      rw [if_neg q2] at e1
      have r1 : Rc f n k (8, ax, Q, T, s, pr, al, c) (k + 1) (9, axN (f k), Q, T, s, pr, al, c) := Rc.one q e1
      rw [eK, ex]
      by_cases q3 : k + 1 < n
      · have eT : rtT f n k = teN (f (k + 1)) := by unfold rtT; rw [eK, if_pos q3]
        rw [eT]
        constructor
        · intro t
          refine ⟨_, r1, Or.inl ⟨q3, ?_⟩⟩
          show a_stt (teN (f (k + 1))) (axN (f k)) Q T s pr al c = none
          unfold a_stt
          rw [if_pos t]
        · intro t
          refine r1.tr (Rc.one q3 ?_)
          show a_stt (teN (f (k + 1))) (axN (f k)) Q T s pr al c = _
          unfold a_stt
          rw [if_neg t]
      · have eT : rtT f n k = -1 := by unfold rtT; rw [eK, if_neg q3]
        exact ⟨fun _ => ⟨_, r1, Or.inr ⟨by omega, by simp⟩⟩, fun t => absurd eT t⟩
  · have ex : rtX f n k = 0 := by unfold rtX; rw [if_neg q]
    have eK : rtK f n k = k := by unfold rtK; rw [if_neg (by omega)]
    have eT : rtT f n k = -1 := by unfold rtT; rw [eK, if_neg q]
    rw [eK]
    exact ⟨fun _ => ⟨_, Rc.rf hkn, Or.inr ⟨by omega, by simp⟩⟩, fun t => absurd eT t⟩
