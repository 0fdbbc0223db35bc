/-! ===== the model: rewriting, its leaves ===== -/
def SQ (a : Nat) (lo hi : Int) : Nat → Int → Prop := fun b j => b = a + 7 ∧ lo ≤ j ∧ j < hi
theorem SQ.mono {a : Nat} {lo hi lo' hi' : Int} (h1 : lo' ≤ lo) (h2 : hi ≤ hi') : ∀ b j, SQ a lo hi b j → SQ a lo' hi' b j := by
  intro b j h
  unfold SQ at *
  omega
theorem shM.q {h : AH} {a : Nat} (g : shM h a) : kd h a = some (.inl 11) ∧ gr h a 12 = some (a + 7) ∧ kd h (a + 7) = some (.inr (1, 6537)) := by
  obtain ⟨hk, -, -, -, -, -, -, hq, -⟩ := g
  exact ⟨hk, hq.1, hq.2⟩
theorem gi_mvi {h : AH} {A : Nat} {F T n k : Int} (h1 : T ≤ k) (h2 : k < T + n) : gi (cpI h A F A T n) A k = gi h A (F + (k - T)) := by rw [gi_cpI, if_pos ⟨rfl, h1, h2⟩]
theorem gi_mvo {h : AH} {A b : Nat} {F T n k : Int} (h1 : b ≠ A ∨ k < T ∨ T + n ≤ k) : gi (cpI h A F A T n) b k = gi h b k := by rw [gi_cpI, if_neg (by omega)]
theorem cpI_z (h : AH) (A : Nat) (F T : Int) : cpI h A F A T 0 = h := by
  have : (fun (b : Nat) (k : Int) => if b = A ∧ T ≤ k ∧ k < T + 0 then h.2.1 A (F + (k - T)) else h.2.1 b k) = h.2.1 := by
    funext b k
    rw [if_neg (by omega)]
  unfold cpI
  rw [this]
theorem cpI_s {h : AH} {A : Nat} {F T k v : Int} (hk : 0 ≤ k) (hv : v = gi h A (F + k)) : si (cpI h A F A T k) A (T + k) v = cpI h A F A T (k + 1) := by
  subst hv
  have : (fun (b : Nat) (j : Int) => if b = A ∧ j = T + k then gi h A (F + k) else (if b = A ∧ T ≤ j ∧ j < T + k then h.2.1 A (F + (j - T)) else h.2.1 b j)) = fun b j => if b = A ∧ T ≤ j ∧ j < T + (k + 1) then h.2.1 A (F + (j - T)) else h.2.1 b j := by
    funext b j
    by_cases q : b = A ∧ j = T + k
    · rw [if_pos q, if_pos (by omega)]
      obtain ⟨-, rfl⟩ := q
      show h.2.1 A (F + k) = h.2.1 A (F + (T + k - T))
      rw [show F + (T + k - T) = F + k by omega]
    · rw [if_neg q]
      by_cases q2 : b = A ∧ T ≤ j ∧ j < T + k
      · rw [if_pos q2, if_pos (by omega)]
      · rw [if_neg q2, if_neg (by omega)]
  unfold si cpI
  rw [show (fun (b : Nat) (j : Int) => if b = A ∧ j = T + k then gi h A (F + k) else ((h.1, (fun b k_1 => if b = A ∧ T ≤ k_1 ∧ k_1 < T + k then h.2.1 A (F + (k_1 - T)) else h.2.1 b k_1), h.2.2.1, h.2.2.2) : AH).2.1 b j) = _ from this]
theorem eqG_mv {a : Nat} {h : AH} {F T n lo hi : Int} (h1 : lo ≤ T) (h2 : T + n ≤ hi) : eqG (SQ a lo hi) h (cpI h (a + 7) F (a + 7) T n) := ⟨fun _ => rfl, fun _ _ => rfl, fun _ _ => rfl, rfl, fun b j q => gi_mvo (by unfold SQ at q; omega)⟩
theorem m_isTest {γ : GG} {h : AH} {a : Nat} {b x : Int} {s : TS} (hM : shM h a) (hb : 1 ≤ b ∧ b + 204 ≤ 6537) (hx : 0 ≤ x ∧ x ≤ 9) (ho : okS s) (hg : gS (gi h (a + 7)) b s) : Call γ mX12_isTest 0 0 0 [vr (some a), vi b, vi x] h (rV (vi (if s.1 = (x, 8) then 1 else 0)) h) := by
  obtain ⟨hka, rq, kq⟩ := hM.q
  obtain ⟨o1, o2, o3, o4⟩ := ho.1
  have e0 := hg.1
  have e1 := hg.2.1
  by_cases q : s.1 = (x, 8)
  · rw [if_pos q]
    have q1 : s.1.1 = x := by rw [q]
    have q2 : s.1.2 = 8 := by rw [q]
    refine Call.of (ls := [(0, vr (some a)), (1, vi b), (2, vi x)]) vX12_isTest.1 (Nat.le_of_ble_eq_true rfl) rfl ?_
    refine aw_aload_n dX12_isTest_0 rfl ?_
    refine aw_getr' (j := 12) dX12_isTest_1 fX12_28 rfl (by assumption) rfl (by assumption) ?_
    refine aw_iload_n dX12_isTest_4 rfl ?_
    refine aw_iald' dX12_isTest_5 (by assumption) (by omega) (by first | decide | omega) e0 ?_
    refine aw_iload_n dX12_isTest_6 rfl ?_
    refine aw_ic_ne (tgt := 27) dX12_isTest_7 rfl (by omega) (by omega) (fun c7 => ?_) (fun c7 => ?_)
    · exact absurd c7 (by omega)
    · refine aw_aload_n dX12_isTest_10 rfl ?_
      refine aw_getr' (j := 12) dX12_isTest_11 fX12_28 rfl (by assumption) rfl (by assumption) ?_
      refine aw_iload_n dX12_isTest_14 rfl ?_
      refine aw_iconst dX12_isTest_15 ?_
      refine aw_iadd dX12_isTest_16 ?_
      refine aw_iald' dX12_isTest_17 (by assumption) (by omega) (by first | decide | omega) e1 ?_
      refine aw_bipush dX12_isTest_18 rfl ?_
      refine aw_ic_ne (tgt := 27) dX12_isTest_20 rfl (by omega) (by omega) (fun c20 => ?_) (fun c20 => ?_)
      · exact absurd c20 (by omega)
      · refine aw_iconst dX12_isTest_23 ?_
        refine aw_goto (tgt := 28) dX12_isTest_24 rfl ?_
        exact aw_zreturn dX12_isTest_28 rfl (by omega) (Or.inl rfl) ⟨rfl, rfl⟩
  · rw [if_neg q]
    by_cases q1 : s.1.1 = x
    · have q2 : s.1.2 ≠ 8 := fun z => q (Prod.ext q1 z)
      refine Call.of (ls := [(0, vr (some a)), (1, vi b), (2, vi x)]) vX12_isTest.1 (Nat.le_of_ble_eq_true rfl) rfl ?_
      refine aw_aload_n dX12_isTest_0 rfl ?_
      refine aw_getr' (j := 12) dX12_isTest_1 fX12_28 rfl (by assumption) rfl (by assumption) ?_
      refine aw_iload_n dX12_isTest_4 rfl ?_
      refine aw_iald' dX12_isTest_5 (by assumption) (by omega) (by first | decide | omega) e0 ?_
      refine aw_iload_n dX12_isTest_6 rfl ?_
      refine aw_ic_ne (tgt := 27) dX12_isTest_7 rfl (by omega) (by omega) (fun c7 => ?_) (fun c7 => ?_)
      · exact absurd c7 (by omega)
      · refine aw_aload_n dX12_isTest_10 rfl ?_
        refine aw_getr' (j := 12) dX12_isTest_11 fX12_28 rfl (by assumption) rfl (by assumption) ?_
        refine aw_iload_n dX12_isTest_14 rfl ?_
        refine aw_iconst dX12_isTest_15 ?_
        refine aw_iadd dX12_isTest_16 ?_
        refine aw_iald' dX12_isTest_17 (by assumption) (by omega) (by first | decide | omega) e1 ?_
        refine aw_bipush dX12_isTest_18 rfl ?_
        refine aw_ic_ne (tgt := 27) dX12_isTest_20 rfl (by omega) (by omega) (fun c20 => ?_) (fun c20 => ?_)
        · refine aw_iconst dX12_isTest_27 ?_
          exact aw_zreturn dX12_isTest_28 rfl (by omega) (Or.inl rfl) ⟨rfl, rfl⟩
        · exact absurd c20 (by omega)
    · skip
      refine Call.of (ls := [(0, vr (some a)), (1, vi b), (2, vi x)]) vX12_isTest.1 (Nat.le_of_ble_eq_true rfl) rfl ?_
      refine aw_aload_n dX12_isTest_0 rfl ?_
      refine aw_getr' (j := 12) dX12_isTest_1 fX12_28 rfl (by assumption) rfl (by assumption) ?_
      refine aw_iload_n dX12_isTest_4 rfl ?_
      refine aw_iald' dX12_isTest_5 (by assumption) (by omega) (by first | decide | omega) e0 ?_
      refine aw_iload_n dX12_isTest_6 rfl ?_
      refine aw_ic_ne (tgt := 27) dX12_isTest_7 rfl (by omega) (by omega) (fun c7 => ?_) (fun c7 => ?_)
      · refine aw_iconst dX12_isTest_27 ?_
        exact aw_zreturn dX12_isTest_28 rfl (by omega) (Or.inl rfl) ⟨rfl, rfl⟩
      · exact absurd c7 (by omega)
theorem m_isPlain {γ : GG} {h : AH} {a : Nat} {b x : Int} {s : TS} (hM : shM h a) (hb : 1 ≤ b ∧ b + 204 ≤ 6537) (hx : 0 ≤ x ∧ x ≤ 9) (ho : okS s) (hg : gS (gi h (a + 7)) b s) : Call γ mX12_isPlain 1 0 0 [vr (some a), vi b, vi x] h (rV (vi (if s.1 = (x, 8) ∧ s.2.length = 0 then 1 else 0)) h) := by
  obtain ⟨hka, rq, kq⟩ := hM.q
  have K := m_isTest (γ := γ) hM hb hx ho hg
  have e2 := hg.2.2.1
  have l3 := ho.2.1
  by_cases q : s.1 = (x, 8)
  · rw [if_pos q] at K
    by_cases q2 : s.2.length = 0
    · rw [if_pos ⟨q, q2⟩]
      refine Call.of (ls := [(0, vr (some a)), (1, vi b), (2, vi x)]) vX12_isPlain.1 (Nat.le_of_ble_eq_true rfl) rfl ?_
      refine aw_aload_n dX12_isPlain_0 rfl ?_
      refine aw_iload_n dX12_isPlain_1 rfl ?_
      refine aw_iload_n dX12_isPlain_2 rfl ?_
      refine aw_invV_r dX12_isPlain_3 vX12_isTest kX12_275 rfl (K) ⟨_, (by assumption), _, _, rfl⟩ rfl rfl (by decide) (by decide) (by decide) (Nat.le_of_ble_eq_true rfl) ?_
      refine aw_if_eq (tgt := 24) dX12_isPlain_6 rfl (by omega) (fun c6 => ?_) (fun c6 => ?_)
      · exact absurd c6 (by omega)
      · refine aw_aload_n dX12_isPlain_9 rfl ?_
        refine aw_getr' (j := 12) dX12_isPlain_10 fX12_28 rfl (by assumption) rfl (by assumption) ?_
        refine aw_iload_n dX12_isPlain_13 rfl ?_
        refine aw_iconst dX12_isPlain_14 ?_
        refine aw_iadd dX12_isPlain_15 ?_
        refine aw_iald' dX12_isPlain_16 (by assumption) (by omega) (by first | decide | omega) e2 ?_
        refine aw_if_ne (tgt := 24) dX12_isPlain_17 rfl (by omega) (fun c17 => ?_) (fun c17 => ?_)
        · exact absurd c17 (by omega)
        · refine aw_iconst dX12_isPlain_20 ?_
          refine aw_goto (tgt := 25) dX12_isPlain_21 rfl ?_
          exact aw_zreturn dX12_isPlain_25 rfl (by omega) (Or.inl rfl) ⟨rfl, rfl⟩
    · rw [if_neg (fun z => q2 z.2)]
      refine Call.of (ls := [(0, vr (some a)), (1, vi b), (2, vi x)]) vX12_isPlain.1 (Nat.le_of_ble_eq_true rfl) rfl ?_
      refine aw_aload_n dX12_isPlain_0 rfl ?_
      refine aw_iload_n dX12_isPlain_1 rfl ?_
      refine aw_iload_n dX12_isPlain_2 rfl ?_
      refine aw_invV_r dX12_isPlain_3 vX12_isTest kX12_275 rfl (K) ⟨_, (by assumption), _, _, rfl⟩ rfl rfl (by decide) (by decide) (by decide) (Nat.le_of_ble_eq_true rfl) ?_
      refine aw_if_eq (tgt := 24) dX12_isPlain_6 rfl (by omega) (fun c6 => ?_) (fun c6 => ?_)
      · exact absurd c6 (by omega)
      · refine aw_aload_n dX12_isPlain_9 rfl ?_
        refine aw_getr' (j := 12) dX12_isPlain_10 fX12_28 rfl (by assumption) rfl (by assumption) ?_
        refine aw_iload_n dX12_isPlain_13 rfl ?_
        refine aw_iconst dX12_isPlain_14 ?_
        refine aw_iadd dX12_isPlain_15 ?_
        refine aw_iald' dX12_isPlain_16 (by assumption) (by omega) (by first | decide | omega) e2 ?_
        refine aw_if_ne (tgt := 24) dX12_isPlain_17 rfl (by omega) (fun c17 => ?_) (fun c17 => ?_)
        · refine aw_iconst dX12_isPlain_24 ?_
          exact aw_zreturn dX12_isPlain_25 rfl (by omega) (Or.inl rfl) ⟨rfl, rfl⟩
        · exact absurd c17 (by omega)
  · rw [if_neg q] at K
    rw [if_neg (fun z => q z.1)]
    refine Call.of (ls := [(0, vr (some a)), (1, vi b), (2, vi x)]) vX12_isPlain.1 (Nat.le_of_ble_eq_true rfl) rfl ?_
    refine aw_aload_n dX12_isPlain_0 rfl ?_
    refine aw_iload_n dX12_isPlain_1 rfl ?_
    refine aw_iload_n dX12_isPlain_2 rfl ?_
    refine aw_invV_r dX12_isPlain_3 vX12_isTest kX12_275 rfl (K) ⟨_, (by assumption), _, _, rfl⟩ rfl rfl (by decide) (by decide) (by decide) (Nat.le_of_ble_eq_true rfl) ?_
    refine aw_if_eq (tgt := 24) dX12_isPlain_6 rfl (by omega) (fun c6 => ?_) (fun c6 => ?_)
    · refine aw_iconst dX12_isPlain_24 ?_
      exact aw_zreturn dX12_isPlain_25 rfl (by omega) (Or.inl rfl) ⟨rfl, rfl⟩
    · exact absurd c6 (by omega)
theorem l_ip24 {γ : GG} {h : AH} {a : Nat} {b ab i : Int} {al : TA} {Q : AR → AH → Prop} (hM : shM h a) (ho : okA al) (hb : 1 ≤ ab ∧ ab + 22 ≤ 6537) (hg : gA (gi h (a + 7)) ab al) : ∀ (r : TA) (k : Nat) (ac : Bool), al.drop k = r → k ≤ al.length → AW γ mX12_isPositional 1 0 0 70 [(3, vi i), (2, vi (bI (ac || r.any isPosC))), (0, vr (some a)), (1, vi b)] [] h Q → AW γ mX12_isPositional 1 0 0 24 [(5, vi (k : Int)), (4, vi ab), (3, vi i), (2, vi (bI ac)), (0, vr (some a)), (1, vi b)] [] h Q := by
  obtain ⟨hka, rq, kq⟩ := hM.q
  have g0 := hg.1
  have l3 := ho.2.1
  intro r
  induction r with
  | nil =>
    intro k ac hd hkl kk
    have hk := List.drop_eq_nil_iff.mp hd
    simp only [List.any_nil, Bool.or_false] at kk
    refine aw_iload dX12_isPositional_24 rfl ?_
    refine aw_aload_n dX12_isPositional_26 rfl ?_
    refine aw_getr' (j := 12) dX12_isPositional_27 fX12_28 rfl (by assumption) rfl (by assumption) ?_
    refine aw_iload dX12_isPositional_30 rfl ?_
    refine aw_iald' dX12_isPositional_32 (by assumption) (by omega) (by first | decide | omega) g0 ?_
    refine aw_ic_ge (tgt := 70) dX12_isPositional_33 rfl (by omega) (by omega) (fun c33 => ?_) (fun c33 => ?_)
    · refine aw_sub [2, 3, 4, 5] rfl ?_
      exact kk
    · exact absurd c33 (by omega)
  | cons x r ih =>
    intro k ac hd hkl kk
    obtain ⟨hx, hdr, hlt⟩ := drop_hd hd
    have ox := okC_k (ho.2.2 x (List.mem_of_getElem? hx))
    have gc := (hg.2 k x hx).2.1
    have KC := m_conditionAt (γ := γ) (h := h) (p := ab) (k := (k : Int))
    simp only [List.any_cons] at kk
    have I := ih (k + 1) (ac || isPosC x) hdr (by omega) (by rw [Bool.or_assoc]; exact kk)
    cases ac with
    | true =>
      simp only [Bool.true_or] at I
      refine aw_iload dX12_isPositional_24 rfl ?_
      refine aw_aload_n dX12_isPositional_26 rfl ?_
      refine aw_getr' (j := 12) dX12_isPositional_27 fX12_28 rfl (by assumption) rfl (by assumption) ?_
      refine aw_iload dX12_isPositional_30 rfl ?_
      refine aw_iald' dX12_isPositional_32 (by assumption) (by omega) (by first | decide | omega) g0 ?_
      refine aw_ic_ge (tgt := 70) dX12_isPositional_33 rfl (by omega) (by omega) (fun c33 => ?_) (fun c33 => ?_)
      · exact absurd c33 (by omega)
      · refine aw_iload_n dX12_isPositional_36 rfl ?_
        refine aw_if_ne (tgt := 58) dX12_isPositional_37 rfl (by decide) (fun c37 => ?_) (fun c37 => ?_)
        · refine aw_iconst dX12_isPositional_58 ?_
          refine aw_goto (tgt := 63) dX12_isPositional_59 rfl ?_
          refine aw_istore_n (ls1 := [(2, _), (5, _), (4, _), (3, _), (0, _), (1, _)]) dX12_isPositional_63 (by decide) rfl ?_
          refine aw_iinc (k9 := 1) (ls1 := [(5, _), (2, _), (4, _), (3, _), (0, _), (1, _)]) dX12_isPositional_64 rfl (by decide) rfl ?_
          refine aw_goto (tgt := 24) dX12_isPositional_67 rfl ?_
          refine aw_sub [0, 2, 3, 1, 4, 5] rfl ?_
          exact I
        · exact absurd c37 (by decide)
    | false =>
      simp only [Bool.false_or] at I
      by_cases q : x.2.1 ≤ 1
      · have e : isPosC x = true := by unfold isPosC; simp [q]
        rw [e] at I
        refine aw_iload dX12_isPositional_24 rfl ?_
        refine aw_aload_n dX12_isPositional_26 rfl ?_
        refine aw_getr' (j := 12) dX12_isPositional_27 fX12_28 rfl (by assumption) rfl (by assumption) ?_
        refine aw_iload dX12_isPositional_30 rfl ?_
        refine aw_iald' dX12_isPositional_32 (by assumption) (by omega) (by first | decide | omega) g0 ?_
        refine aw_ic_ge (tgt := 70) dX12_isPositional_33 rfl (by omega) (by omega) (fun c33 => ?_) (fun c33 => ?_)
        · exact absurd c33 (by omega)
        · refine aw_iload_n dX12_isPositional_36 rfl ?_
          refine aw_if_ne (tgt := 58) dX12_isPositional_37 rfl (by decide) (fun c37 => ?_) (fun c37 => ?_)
          · exact absurd rfl c37
          · refine aw_aload_n dX12_isPositional_40 rfl ?_
            refine aw_getr' (j := 12) dX12_isPositional_41 fX12_28 rfl (by assumption) rfl (by assumption) ?_
            refine aw_iload dX12_isPositional_44 rfl ?_
            refine aw_iload dX12_isPositional_46 rfl ?_
            refine aw_invS_r dX12_isPositional_48 sX12_conditionAt kX12_153 rfl (KC) rfl rfl (by decide) (by decide) (by decide) (Nat.le_of_ble_eq_true rfl) ?_
            refine aw_iconst dX12_isPositional_51 ?_
            refine aw_iadd dX12_isPositional_52 ?_
            refine aw_iald' dX12_isPositional_53 (by assumption) (by omega) (by first | decide | omega) gc ?_
            refine aw_iconst dX12_isPositional_54 ?_
            refine aw_ic_gt (tgt := 62) dX12_isPositional_55 rfl (by omega) (by omega) (fun c55 => ?_) (fun c55 => ?_)
            · exact absurd c55 (by omega)
            · refine aw_iconst dX12_isPositional_58 ?_
              refine aw_goto (tgt := 63) dX12_isPositional_59 rfl ?_
              refine aw_istore_n (ls1 := [(2, _), (5, _), (4, _), (3, _), (0, _), (1, _)]) dX12_isPositional_63 (by decide) rfl ?_
              refine aw_iinc (k9 := 1) (ls1 := [(5, _), (2, _), (4, _), (3, _), (0, _), (1, _)]) dX12_isPositional_64 rfl (by decide) rfl ?_
              refine aw_goto (tgt := 24) dX12_isPositional_67 rfl ?_
              refine aw_sub [0, 2, 3, 1, 4, 5] rfl ?_
              exact I
      · have e : isPosC x = false := by unfold isPosC; simp; omega
        rw [e] at I
        refine aw_iload dX12_isPositional_24 rfl ?_
        refine aw_aload_n dX12_isPositional_26 rfl ?_
        refine aw_getr' (j := 12) dX12_isPositional_27 fX12_28 rfl (by assumption) rfl (by assumption) ?_
        refine aw_iload dX12_isPositional_30 rfl ?_
        refine aw_iald' dX12_isPositional_32 (by assumption) (by omega) (by first | decide | omega) g0 ?_
        refine aw_ic_ge (tgt := 70) dX12_isPositional_33 rfl (by omega) (by omega) (fun c33 => ?_) (fun c33 => ?_)
        · exact absurd c33 (by omega)
        · refine aw_iload_n dX12_isPositional_36 rfl ?_
          refine aw_if_ne (tgt := 58) dX12_isPositional_37 rfl (by decide) (fun c37 => ?_) (fun c37 => ?_)
          · exact absurd rfl c37
          · refine aw_aload_n dX12_isPositional_40 rfl ?_
            refine aw_getr' (j := 12) dX12_isPositional_41 fX12_28 rfl (by assumption) rfl (by assumption) ?_
            refine aw_iload dX12_isPositional_44 rfl ?_
            refine aw_iload dX12_isPositional_46 rfl ?_
            refine aw_invS_r dX12_isPositional_48 sX12_conditionAt kX12_153 rfl (KC) rfl rfl (by decide) (by decide) (by decide) (Nat.le_of_ble_eq_true rfl) ?_
            refine aw_iconst dX12_isPositional_51 ?_
            refine aw_iadd dX12_isPositional_52 ?_
            refine aw_iald' dX12_isPositional_53 (by assumption) (by omega) (by first | decide | omega) gc ?_
            refine aw_iconst dX12_isPositional_54 ?_
            refine aw_ic_gt (tgt := 62) dX12_isPositional_55 rfl (by omega) (by omega) (fun c55 => ?_) (fun c55 => ?_)
            · refine aw_iconst dX12_isPositional_62 ?_
              refine aw_istore_n (ls1 := [(2, _), (5, _), (4, _), (3, _), (0, _), (1, _)]) dX12_isPositional_63 (by decide) rfl ?_
              refine aw_iinc (k9 := 1) (ls1 := [(5, _), (2, _), (4, _), (3, _), (0, _), (1, _)]) dX12_isPositional_64 rfl (by decide) rfl ?_
              refine aw_goto (tgt := 24) dX12_isPositional_67 rfl ?_
              refine aw_sub [0, 2, 3, 1, 4, 5] rfl ?_
              exact I
            · exact absurd c55 (by omega)
theorem l_ip4 {γ : GG} {h : AH} {a : Nat} {b : Int} {p : TP} (hM : shM h a) (ho : okP p) (hb : 1 ≤ b ∧ b + 67 ≤ 6537) (hg : gP (gi h (a + 7)) b p) : ∀ (r : TP) (k : Nat) (ac : Bool), p.drop k = r → k ≤ p.length → AW γ mX12_isPositional 1 0 0 4 [(3, vi (k : Int)), (2, vi (bI ac)), (0, vr (some a)), (1, vi b)] [] h (rV (vi (bI (ac || r.any (fun x => x.any isPosC)))) h) := by
  obtain ⟨hka, rq, kq⟩ := hM.q
  have g0 := hg.1
  have l3 := ho.2.1
  intro r
  induction r with
  | nil =>
    intro k ac hd hkl
    have hk := List.drop_eq_nil_iff.mp hd
    simp only [List.any_nil, Bool.or_false]
    refine aw_iload_n dX12_isPositional_4 rfl ?_
    refine aw_aload_n dX12_isPositional_5 rfl ?_
    refine aw_getr' (j := 12) dX12_isPositional_6 fX12_28 rfl (by assumption) rfl (by assumption) ?_
    refine aw_iload_n dX12_isPositional_9 rfl ?_
    refine aw_iald' dX12_isPositional_10 (by assumption) (by omega) (by first | decide | omega) g0 ?_
    refine aw_ic_ge (tgt := 76) dX12_isPositional_11 rfl (by omega) (by omega) (fun c11 => ?_) (fun c11 => ?_)
    · refine aw_iload_n dX12_isPositional_76 rfl ?_
      exact aw_zreturn dX12_isPositional_77 rfl (bI_01 ac) (Or.inl rfl) ⟨rfl, rfl⟩
    · exact absurd c11 (by omega)
  | cons x r ih =>
    intro k ac hd hkl
    obtain ⟨hx, hdr, hlt⟩ := drop_hd hd
    have ox := ho.2.2 x (List.mem_of_getElem? hx)
    have KC := m_alternativeAt (γ := γ) (h := h) (p := b) (k := (k : Int))
    have I := ih (k + 1) (ac || x.any isPosC) hdr (by omega)
    rw [Bool.or_assoc, ← List.any_cons (f := fun x : TA => x.any isPosC)] at I
    have L := l_ip24 (γ := γ) (h := h) (a := a) (b := b) (ab := b + 1 + 22 * (k : Int)) (i := (k : Int)) (Q := rV (vi (bI (ac || (x :: r).any (fun x => x.any isPosC)))) h) hM ox (by omega) (hg.2 k x hx) x 0 ac rfl (Nat.zero_le _) (by
      refine aw_iinc (k9 := 0) (ls1 := [(3, _), (2, _), (0, _), (1, _)]) dX12_isPositional_70 rfl (by decide) rfl ?_
      refine aw_goto (tgt := 4) dX12_isPositional_73 rfl ?_
      refine aw_sub [0, 1, 2, 3] rfl ?_
      exact I)
    refine aw_iload_n dX12_isPositional_4 rfl ?_
    refine aw_aload_n dX12_isPositional_5 rfl ?_
    refine aw_getr' (j := 12) dX12_isPositional_6 fX12_28 rfl (by assumption) rfl (by assumption) ?_
    refine aw_iload_n dX12_isPositional_9 rfl ?_
    refine aw_iald' dX12_isPositional_10 (by assumption) (by omega) (by first | decide | omega) g0 ?_
    refine aw_ic_ge (tgt := 76) dX12_isPositional_11 rfl (by omega) (by omega) (fun c11 => ?_) (fun c11 => ?_)
    · exact absurd c11 (by omega)
    · refine aw_iload_n dX12_isPositional_14 rfl ?_
      refine aw_iload_n dX12_isPositional_15 rfl ?_
      refine aw_invS_r dX12_isPositional_16 sX12_alternativeAt kX12_159 rfl (KC) rfl rfl (by decide) (by decide) (by decide) (Nat.le_of_ble_eq_true rfl) ?_
      refine aw_istore (ls1 := [(4, _), (3, _), (2, _), (0, _), (1, _)]) dX12_isPositional_19 (by decide) rfl ?_
      refine aw_iconst dX12_isPositional_21 ?_
      refine aw_istore (ls1 := [(5, _), (4, _), (3, _), (2, _), (0, _), (1, _)]) dX12_isPositional_22 (by decide) rfl ?_
      refine aw_sub [0, 1, 2, 3, 4, 5] rfl ?_
      exact L
theorem m_isPositional {γ : GG} {h : AH} {a : Nat} {b : Int} {p : TP} (hM : shM h a) (ho : okP p) (hb : 1 ≤ b ∧ b + 67 ≤ 6537) (hg : gP (gi h (a + 7)) b p) : Call γ mX12_isPositional 1 0 0 [vr (some a), vi b] h (rV (vi (bI (isPosP p))) h) := by
  have L := l_ip4 (γ := γ) hM ho hb hg p 0 false rfl (Nat.zero_le _)
  rw [Bool.false_or] at L
  refine Call.of (ls := [(0, vr (some a)), (1, vi b)]) vX12_isPositional.1 (Nat.le_of_ble_eq_true rfl) rfl ?_
  refine aw_iconst dX12_isPositional_0 ?_
  refine aw_istore_n (ls1 := [(2, _), (0, _), (1, _)]) dX12_isPositional_1 (by decide) rfl ?_
  refine aw_iconst dX12_isPositional_2 ?_
  refine aw_istore_n (ls1 := [(3, _), (2, _), (0, _), (1, _)]) dX12_isPositional_3 (by decide) rfl ?_
  refine aw_sub [0, 1, 2, 3] rfl ?_
  exact L
theorem l_ips4 {γ : GG} {h : AH} {a : Nat} {b : Int} {s : TS} (hM : shM h a) (ho : okS s) (hb : 1 ≤ b ∧ b + 204 ≤ 6537) (hg : gS (gi h (a + 7)) b s) : ∀ (r : List TP) (k : Nat) (ac : Bool), s.2.drop k = r → k ≤ s.2.length → AW γ mX12_isPositionalStep 2 0 0 4 [(3, vi (k : Int)), (2, vi (bI ac)), (0, vr (some a)), (1, vi b)] [] h (rV (vi (bI (ac || r.any isPosP))) h) := by
  obtain ⟨hka, rq, kq⟩ := hM.q
  have g0 := hg.2.2.1
  have l3 := ho.2.1
  intro r
  induction r with
  | nil =>
    intro k ac hd hkl
    have hk := List.drop_eq_nil_iff.mp hd
    simp only [List.any_nil, Bool.or_false]
    refine aw_iload_n dX12_isPositionalStep_4 rfl ?_
    refine aw_aload_n dX12_isPositionalStep_5 rfl ?_
    refine aw_getr' (j := 12) dX12_isPositionalStep_6 fX12_28 rfl (by assumption) rfl (by assumption) ?_
    refine aw_iload_n dX12_isPositionalStep_9 rfl ?_
    refine aw_iconst dX12_isPositionalStep_10 ?_
    refine aw_iadd dX12_isPositionalStep_11 ?_
    refine aw_iald' dX12_isPositionalStep_12 (by assumption) (by omega) (by first | decide | omega) g0 ?_
    refine aw_ic_ge (tgt := 44) dX12_isPositionalStep_13 rfl (by omega) (by omega) (fun c13 => ?_) (fun c13 => ?_)
    · refine aw_iload_n dX12_isPositionalStep_44 rfl ?_
      exact aw_zreturn dX12_isPositionalStep_45 rfl (bI_01 ac) (Or.inl rfl) ⟨rfl, rfl⟩
    · exact absurd c13 (by omega)
  | cons x r ih =>
    intro k ac hd hkl
    obtain ⟨hx, hdr, hlt⟩ := drop_hd hd
    have ox := ho.2.2 x (List.mem_of_getElem? hx)
    have KC := m_predicateAt (γ := γ) (h := h) (p := b) (k := (k : Int))
    have KP := m_isPositional (γ := γ) hM ox (by omega) (hg.2.2.2 k x hx)
    have I := ih (k + 1) (ac || isPosP x) hdr (by omega)
    rw [Bool.or_assoc, ← List.any_cons] at I
    cases ac with
    | true =>
      simp only [Bool.true_or] at I ⊢
      refine aw_iload_n dX12_isPositionalStep_4 rfl ?_
      refine aw_aload_n dX12_isPositionalStep_5 rfl ?_
      refine aw_getr' (j := 12) dX12_isPositionalStep_6 fX12_28 rfl (by assumption) rfl (by assumption) ?_
      refine aw_iload_n dX12_isPositionalStep_9 rfl ?_
      refine aw_iconst dX12_isPositionalStep_10 ?_
      refine aw_iadd dX12_isPositionalStep_11 ?_
      refine aw_iald' dX12_isPositionalStep_12 (by assumption) (by omega) (by first | decide | omega) g0 ?_
      refine aw_ic_ge (tgt := 44) dX12_isPositionalStep_13 rfl (by omega) (by omega) (fun c13 => ?_) (fun c13 => ?_)
      · exact absurd c13 (by omega)
      · refine aw_iload_n dX12_isPositionalStep_16 rfl ?_
        refine aw_if_ne (tgt := 32) dX12_isPositionalStep_17 rfl (by decide) (fun c17 => ?_) (fun c17 => ?_)
        · refine aw_iconst dX12_isPositionalStep_32 ?_
          refine aw_goto (tgt := 37) dX12_isPositionalStep_33 rfl ?_
          refine aw_istore_n (ls1 := [(2, _), (3, _), (0, _), (1, _)]) dX12_isPositionalStep_37 (by decide) rfl ?_
          refine aw_iinc (k9 := 1) (ls1 := [(3, _), (2, _), (0, _), (1, _)]) dX12_isPositionalStep_38 rfl (by decide) rfl ?_
          refine aw_goto (tgt := 4) dX12_isPositionalStep_41 rfl ?_
          refine aw_sub [0, 1, 2, 3] rfl ?_
          exact I
        · exact absurd c17 (by decide)
    | false =>
      simp only [Bool.false_or] at I ⊢
      cases e : isPosP x with
      | true =>
        rw [e] at I KP
        refine aw_iload_n dX12_isPositionalStep_4 rfl ?_
        refine aw_aload_n dX12_isPositionalStep_5 rfl ?_
        refine aw_getr' (j := 12) dX12_isPositionalStep_6 fX12_28 rfl (by assumption) rfl (by assumption) ?_
        refine aw_iload_n dX12_isPositionalStep_9 rfl ?_
        refine aw_iconst dX12_isPositionalStep_10 ?_
        refine aw_iadd dX12_isPositionalStep_11 ?_
        refine aw_iald' dX12_isPositionalStep_12 (by assumption) (by omega) (by first | decide | omega) g0 ?_
        refine aw_ic_ge (tgt := 44) dX12_isPositionalStep_13 rfl (by omega) (by omega) (fun c13 => ?_) (fun c13 => ?_)
        · exact absurd c13 (by omega)
        · refine aw_iload_n dX12_isPositionalStep_16 rfl ?_
          refine aw_if_ne (tgt := 32) dX12_isPositionalStep_17 rfl (by decide) (fun c17 => ?_) (fun c17 => ?_)
          · exact absurd rfl c17
          · refine aw_aload_n dX12_isPositionalStep_20 rfl ?_
            refine aw_iload_n dX12_isPositionalStep_21 rfl ?_
            refine aw_iload_n dX12_isPositionalStep_22 rfl ?_
            refine aw_invS_r dX12_isPositionalStep_23 sX12_predicateAt kX12_168 rfl (KC) rfl rfl (by decide) (by decide) (by decide) (Nat.le_of_ble_eq_true rfl) ?_
            refine aw_invV_r dX12_isPositionalStep_26 vX12_isPositional kX12_226 rfl (KP) ⟨_, (by assumption), _, _, rfl⟩ rfl rfl (by decide) (by decide) (by decide) (Nat.le_of_ble_eq_true rfl) ?_
            refine aw_if_eq (tgt := 36) dX12_isPositionalStep_29 rfl (by decide) (fun c29 => ?_) (fun c29 => ?_)
            · exact absurd c29 (by decide)
            · refine aw_iconst dX12_isPositionalStep_32 ?_
              refine aw_goto (tgt := 37) dX12_isPositionalStep_33 rfl ?_
              refine aw_istore_n (ls1 := [(2, _), (3, _), (0, _), (1, _)]) dX12_isPositionalStep_37 (by decide) rfl ?_
              refine aw_iinc (k9 := 1) (ls1 := [(3, _), (2, _), (0, _), (1, _)]) dX12_isPositionalStep_38 rfl (by decide) rfl ?_
              refine aw_goto (tgt := 4) dX12_isPositionalStep_41 rfl ?_
              refine aw_sub [0, 1, 2, 3] rfl ?_
              exact I
      | false =>
        rw [e] at I KP
        refine aw_iload_n dX12_isPositionalStep_4 rfl ?_
        refine aw_aload_n dX12_isPositionalStep_5 rfl ?_
        refine aw_getr' (j := 12) dX12_isPositionalStep_6 fX12_28 rfl (by assumption) rfl (by assumption) ?_
        refine aw_iload_n dX12_isPositionalStep_9 rfl ?_
        refine aw_iconst dX12_isPositionalStep_10 ?_
        refine aw_iadd dX12_isPositionalStep_11 ?_
        refine aw_iald' dX12_isPositionalStep_12 (by assumption) (by omega) (by first | decide | omega) g0 ?_
        refine aw_ic_ge (tgt := 44) dX12_isPositionalStep_13 rfl (by omega) (by omega) (fun c13 => ?_) (fun c13 => ?_)
        · exact absurd c13 (by omega)
        · refine aw_iload_n dX12_isPositionalStep_16 rfl ?_
          refine aw_if_ne (tgt := 32) dX12_isPositionalStep_17 rfl (by decide) (fun c17 => ?_) (fun c17 => ?_)
          · exact absurd rfl c17
          · refine aw_aload_n dX12_isPositionalStep_20 rfl ?_
            refine aw_iload_n dX12_isPositionalStep_21 rfl ?_
            refine aw_iload_n dX12_isPositionalStep_22 rfl ?_
            refine aw_invS_r dX12_isPositionalStep_23 sX12_predicateAt kX12_168 rfl (KC) rfl rfl (by decide) (by decide) (by decide) (Nat.le_of_ble_eq_true rfl) ?_
            refine aw_invV_r dX12_isPositionalStep_26 vX12_isPositional kX12_226 rfl (KP) ⟨_, (by assumption), _, _, rfl⟩ rfl rfl (by decide) (by decide) (by decide) (Nat.le_of_ble_eq_true rfl) ?_
            refine aw_if_eq (tgt := 36) dX12_isPositionalStep_29 rfl (by decide) (fun c29 => ?_) (fun c29 => ?_)
            · refine aw_iconst dX12_isPositionalStep_36 ?_
              refine aw_istore_n (ls1 := [(2, _), (3, _), (0, _), (1, _)]) dX12_isPositionalStep_37 (by decide) rfl ?_
              refine aw_iinc (k9 := 1) (ls1 := [(3, _), (2, _), (0, _), (1, _)]) dX12_isPositionalStep_38 rfl (by decide) rfl ?_
              refine aw_goto (tgt := 4) dX12_isPositionalStep_41 rfl ?_
              refine aw_sub [0, 1, 2, 3] rfl ?_
              exact I
            · exact absurd rfl c29
theorem m_isPositionalStep {γ : GG} {h : AH} {a : Nat} {b : Int} {s : TS} (hM : shM h a) (ho : okS s) (hb : 1 ≤ b ∧ b + 204 ≤ 6537) (hg : gS (gi h (a + 7)) b s) : Call γ mX12_isPositionalStep 2 0 0 [vr (some a), vi b] h (rV (vi (bI (isPosS s))) h) := by
  have L := l_ips4 (γ := γ) hM ho hb hg s.2 0 false rfl (Nat.zero_le _)
  rw [Bool.false_or] at L
  refine Call.of (ls := [(0, vr (some a)), (1, vi b)]) vX12_isPositionalStep.1 (Nat.le_of_ble_eq_true rfl) rfl ?_
  refine aw_iconst dX12_isPositionalStep_0 ?_
  refine aw_istore_n (ls1 := [(2, _), (0, _), (1, _)]) dX12_isPositionalStep_1 (by decide) rfl ?_
  refine aw_iconst dX12_isPositionalStep_2 ?_
  refine aw_istore_n (ls1 := [(3, _), (2, _), (0, _), (1, _)]) dX12_isPositionalStep_3 (by decide) rfl ?_
  refine aw_sub [0, 1, 2, 3] rfl ?_
  exact L
theorem l_mv {γ : GG} {h : AH} {a : Nat} {F T : Int} {n : Nat} (hM : shM h a) (hT : 0 ≤ T ∧ T ≤ F) (hF : F + n ≤ 6537) : ∀ (m k : Nat), k + m = n → AW γ mX12_move 0 0 0 3 [(4, vi (k : Int)), (0, vr (some a)), (1, vi F), (2, vi T), (3, vi (n : Int))] [] (cpI h (a + 7) F (a + 7) T k) (rN (cpI h (a + 7) F (a + 7) T n)) := by
  obtain ⟨hka, rq, kq⟩ := hM.q
  intro m
  induction m with
  | zero =>
    intro k hkm
    rw [show k = n by omega]
    refine aw_iload dX12_move_3 rfl ?_
    refine aw_iload_n dX12_move_5 rfl ?_
    refine aw_ic_ge (tgt := 33) dX12_move_6 rfl (by omega) (by omega) (fun c6 => ?_) (fun c6 => ?_)
    · exact aw_return dX12_move_33 rfl (Or.inl rfl) ⟨rfl, rfl⟩
    · exact absurd c6 (by omega)
  | succ m ih =>
    intro k hkm
    have I := ih (k + 1) (by omega)
    have e : si (cpI h (a + 7) F (a + 7) T (k : Int)) (a + 7) (T + (k : Int)) (gi h (a + 7) (F + (k : Int))) = cpI h (a + 7) F (a + 7) T ((k + 1 : Nat) : Int) := cpI_s (by omega) rfl
    rw [← e] at I
    refine aw_iload dX12_move_3 rfl ?_
    refine aw_iload_n dX12_move_5 rfl ?_
    refine aw_ic_ge (tgt := 33) dX12_move_6 rfl (by omega) (by omega) (fun c6 => ?_) (fun c6 => ?_)
    · exact absurd c6 (by omega)
    · refine aw_aload_n dX12_move_9 rfl ?_
      refine aw_getr' (j := 12) dX12_move_10 fX12_28 rfl (by assumption) rfl (by assumption) ?_
      refine aw_iload_n dX12_move_13 rfl ?_
      refine aw_iload dX12_move_14 rfl ?_
      refine aw_iadd dX12_move_16 ?_
      refine aw_aload_n dX12_move_17 rfl ?_
      refine aw_getr' (j := 12) dX12_move_18 fX12_28 rfl (by assumption) rfl (by assumption) ?_
      refine aw_iload_n dX12_move_21 rfl ?_
      refine aw_iload dX12_move_22 rfl ?_
      refine aw_iadd dX12_move_24 ?_
      refine aw_iald' dX12_move_25 (by assumption) (by omega) (by first | decide | omega) (gi_mvo (by omega)) ?_
      refine aw_iast dX12_move_26 (by assumption) (by omega) (by first | decide | omega) ?_
      refine aw_iinc (k9 := 0) (ls1 := [(4, _), (0, _), (1, _), (2, _), (3, _)]) dX12_move_27 rfl (by decide) rfl ?_
      refine aw_goto (tgt := 3) dX12_move_30 rfl ?_
      exact I
theorem m_move {γ : GG} {h : AH} {a : Nat} {F T : Int} {n : Nat} (hM : shM h a) (hT : 0 ≤ T ∧ T ≤ F) (hF : F + n ≤ 6537) : Call γ mX12_move 0 0 0 [vr (some a), vi F, vi T, vi (n : Int)] h (rN (cpI h (a + 7) F (a + 7) T n)) := by
  have L := l_mv (γ := γ) hM hT hF n 0 (by omega)
  rw [show ((0 : Nat) : Int) = 0 from rfl, cpI_z] at L
  refine Call.of (ls := [(0, vr (some a)), (1, vi F), (2, vi T), (3, vi (n : Int))]) vX12_move.1 (Nat.le_of_ble_eq_true rfl) rfl ?_
  refine aw_iconst dX12_move_0 ?_
  refine aw_istore (ls1 := [(4, _), (0, _), (1, _), (2, _), (3, _)]) dX12_move_1 (by decide) rfl ?_
  exact L
