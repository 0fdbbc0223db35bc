/-! ===== Evaluator: rowOf, giftAt, holding, keep ===== -/
def shE (h : AH) (e : Nat) : Prop := kd h e = some (.inl 0) ∧ gr h e 0 = some (e + 1) ∧ kd h (e + 1) = some (.inr (2, 1280)) ∧ gr h e 1 = some (e + 2) ∧ kd h (e + 2) = some (.inr (2, 27))
/-- a condition holds for the node k of the set g -/
def hoC (T : Tr) (ax : Int) (c : TC) (g : Nat → Bool) (k : Nat) : Bool := (if c.2.1 ≤ 1 then plS (numC c g) g (rvA ax) k else nfS T c k) != c.1
def hoO (T : Tr) (ax : Int) (o : Option TC) (g : Nat → Bool) (k : Nat) : Bool := match o with
  | none => true
  | some c => hoC T ax c g k
def allN (p : Nat → Bool) : Nat → Bool
  | 0 => true
  | n + 1 => allN p n && p n
def anyN (p : Nat → Bool) : Nat → Bool
  | 0 => false
  | n + 1 => anyN p n || p n
theorem c_rowOf {γ : GG} {h : AH} {p s : Nat} (hp : p < 4) (hs : s < 8) : Call γ mX1_rowOf 0 0 0 [vi (p : Int), vi (s : Int)] h (rV (vi (((p * 8 + s) * 40 : Nat) : Int)) h) := by
  rw [show (((p * 8 + s) * 40 : Nat) : Int) = ((p : Int) * 8 + s) * 40 by omega]
  refine Call.of (ls := [(0, vi (p : Int)), (1, vi (s : Int))]) sX1_rowOf.1 (Nat.le_of_ble_eq_true rfl) rfl ?_
  refine aw_iload_n dX1_rowOf_0 rfl ?_
  refine aw_bipush dX1_rowOf_1 rfl ?_
  refine aw_imul dX1_rowOf_3 ?_
  refine aw_iload_n dX1_rowOf_4 rfl ?_
  refine aw_iadd dX1_rowOf_5 ?_
  refine aw_bipush dX1_rowOf_6 rfl ?_
  refine aw_imul dX1_rowOf_8 ?_
  exact aw_ireturn dX1_rowOf_9 rfl (Or.inl rfl) ⟨rfl, rfl⟩
theorem c_giftAt {γ : GG} {h : AH} {e k : Nat} (hE : shE h e) (hk : k < 1280) : Call γ mX1_giftAt 0 0 0 [vr (some e), vi (k : Int)] h (rV (vl (gl h (e + 1) k)) h) := by
  obtain ⟨k0, r1, k1, r2, k2⟩ := hE
  refine Call.of (ls := [(0, vr (some e)), (1, vi (k : Int))]) vX1_giftAt.1 (Nat.le_of_ble_eq_true rfl) rfl ?_
  refine aw_iload_n dX1_giftAt_0 rfl ?_
  refine aw_if_lt (tgt := 22) dX1_giftAt_1 rfl (by omega) (fun c1 => ?_) (fun c1 => ?_)
  · exact absurd c1 (by omega)
  · refine aw_iload_n dX1_giftAt_4 rfl ?_
    refine aw_aload_n dX1_giftAt_5 rfl ?_
    refine aw_getr' (j := 0) dX1_giftAt_6 fX1_9 rfl (by assumption) rfl (by assumption) ?_
    refine aw_alen dX1_giftAt_9 (by assumption) (by decide) ?_
    refine aw_ic_ge (tgt := 22) dX1_giftAt_10 rfl (by omega) (by omega) (fun c10 => ?_) (fun c10 => ?_)
    · exact absurd c10 (by omega)
    · refine aw_aload_n dX1_giftAt_13 rfl ?_
      refine aw_getr' (j := 0) dX1_giftAt_14 fX1_9 rfl (by assumption) rfl (by assumption) ?_
      refine aw_iload_n dX1_giftAt_17 rfl ?_
      refine aw_lald' dX1_giftAt_18 (by assumption) (by omega) (by first | decide | omega) rfl ?_
      refine aw_goto (tgt := 23) dX1_giftAt_19 rfl ?_
      exact aw_lreturn dX1_giftAt_23 rfl (Or.inl rfl) ⟨rfl, rfl⟩
theorem c_holding {γ : GG} {h : AH} {e a k : Nat} {T : Tr} {s : TS} {g : Nat → Bool} (hE : shE h e) (hS : isS h a s) (hs : okS s) (hk : k < 27) (hA : ∀ c, cAt s.2 k = some c → gl h (e + 2) k = S9 (nfS T c)) : Call γ mX1_holding 2 0 0 [vr (some e), vr (some a), vi (k : Int), vl (S9 g)] h (rV (vl (S9 (fun j => g j && hoO T s.1.1 (cAt s.2 k) g j))) h) := by
  obtain ⟨k0, r1, k1, r2, k2⟩ := hE
  obtain ⟨hSh, s0, s1, s2, s3⟩ := hS
  have CC := c_cAt (γ := γ) (k := (k : Int)) hSh (by omega)
  rw [if_pos (by omega), s3 k hk, slotv_so] at CC
  obtain ⟨ka, ra, kb⟩ := hSh
  have a9 := hs.1
  obtain ⟨a91, a92, a93, a94⟩ := a9
  cases hc : cAt s.2 k with
  | none =>
    rw [hc] at CC
    have CC : Call γ mX8_conditionAt 0 0 0 [vr (some a), vi (k : Int)] h (rV (vi 0) h) := CC
    have ee : S9 g = S9 (fun j => g j && hoO T s.1.1 none g j) := S9_cong (fun j _ => by unfold hoO; simp)
    rw [← ee]
    refine Call.of (ls := [(0, vr (some e)), (1, vr (some a)), (2, vi (k : Int)), (3, vl (S9 g))]) vX1_holding.1 (Nat.le_of_ble_eq_true rfl) rfl ?_
    refine aw_aload_n dX1_holding_0 rfl ?_
    refine aw_iload_n dX1_holding_1 rfl ?_
    refine aw_invV_r dX1_holding_2 vX8_conditionAt kX1_121 rfl (CC) ⟨_, (by assumption), _, _, rfl⟩ rfl rfl (by decide) (by decide) (by decide) (Nat.le_of_ble_eq_true rfl) ?_
    refine aw_istore (ls1 := [(5, _), (0, _), (1, _), (2, _), (3, _)]) dX1_holding_5 (by decide) rfl ?_
    refine aw_iload dX1_holding_7 rfl ?_
    refine aw_if_eq (tgt := 22) dX1_holding_9 rfl (by omega) (fun c9 => ?_) (fun c9 => ?_)
    · refine aw_lload_n dX1_holding_22 rfl ?_
      exact aw_lreturn dX1_holding_23 rfl (Or.inl rfl) ⟨rfl, rfl⟩
    · exact absurd c9 (by omega)
  | some c =>
    rw [hc] at CC
    have CC : Call γ mX8_conditionAt 0 0 0 [vr (some a), vi (k : Int)] h (rV (vi (pk c)) h) := CC
    have hA := hA c hc
    have okc := (cAt_ok hs.2.2 hc).1
    have bd := pk_bd okc
    have kb9 := okC_k okc
    have CP := c_isPositional (γ := γ) (h := h) (c := pk c) (by omega)
    have CO := c_isOpposite (γ := γ) (h := h) (c := pk c) (by omega)
    rw [pk_kind okc] at CP
    rw [pk_neg okc] at CO
    have CR := c_isReverse (γ := γ) (h := h) (ax := s.1.1) (by omega)
    have F : ∀ f : Nat → Bool, (∀ j, hoO T s.1.1 (some c) g j = (f j != c.1)) → AW γ mX1_holding 2 0 0 55 [(6, vl (S9 f)), (5, vi (pk c)), (0, vr (some e)), (1, vr (some a)), (2, vi (k : Int)), (3, vl (S9 g))] [] h (rV (vl (S9 (fun j => g j && hoO T s.1.1 (some c) g j))) h) := fun f hf => by
      cases q : c.1 with
      | true =>
        rw [q, if_pos rfl] at CO
        have ee : S9 (fun j => g j && !f j) = S9 (fun j => g j && hoO T s.1.1 (some c) g j) := S9_cong (fun j _ => by rw [hf, q]; cases f j <;> rfl)
        rw [← ee]
        refine aw_iload dX1_holding_55 rfl ?_
        refine aw_invS_r dX1_holding_57 sX0_isOpposite kX1_138 rfl (CO) rfl rfl (by decide) (by decide) (by decide) (Nat.le_of_ble_eq_true rfl) ?_
        refine aw_if_eq (tgt := 74) dX1_holding_60 rfl (by omega) (fun c60 => ?_) (fun c60 => ?_)
        · exact absurd c60 (by omega)
        · refine aw_lload_n dX1_holding_63 rfl ?_
          refine aw_lload dX1_holding_64 rfl ?_
          refine aw_ldc2 dX1_holding_66 qX1_141 ?_
          refine aw_lxor dX1_holding_69 ?_
          refine aw_land dX1_holding_70 ?_
          rw [S9_not]
          refine aw_goto (tgt := 78) dX1_holding_71 rfl ?_
          exact aw_lreturn dX1_holding_78 rfl (Or.inl rfl) ⟨rfl, rfl⟩
      | false =>
        rw [q, if_neg (by decide)] at CO
        have ee : S9 (fun j => g j && f j) = S9 (fun j => g j && hoO T s.1.1 (some c) g j) := S9_cong (fun j _ => by rw [hf, q]; cases f j <;> rfl)
        rw [← ee]
        refine aw_iload dX1_holding_55 rfl ?_
        refine aw_invS_r dX1_holding_57 sX0_isOpposite kX1_138 rfl (CO) rfl rfl (by decide) (by decide) (by decide) (Nat.le_of_ble_eq_true rfl) ?_
        refine aw_if_eq (tgt := 74) dX1_holding_60 rfl (by omega) (fun c60 => ?_) (fun c60 => ?_)
        · refine aw_lload_n dX1_holding_74 rfl ?_
          refine aw_lload dX1_holding_75 rfl ?_
          refine aw_land dX1_holding_77 ?_
          rw [S9_and]
          exact aw_lreturn dX1_holding_78 rfl (Or.inl rfl) ⟨rfl, rfl⟩
        · exact absurd c60 (by omega)
    by_cases q : c.2.1 ≤ 1
    · rw [if_pos (by omega)] at CP
      have CL := c_placed (γ := γ) (h := h) (g := g) (rv := rvA s.1.1) okc q
      have F := F (plS (numC c g) g (rvA s.1.1)) (fun j => by unfold hoO hoC; simp only [if_pos q])
      refine Call.of (ls := [(0, vr (some e)), (1, vr (some a)), (2, vi (k : Int)), (3, vl (S9 g))]) vX1_holding.1 (Nat.le_of_ble_eq_true rfl) rfl ?_
      refine aw_aload_n dX1_holding_0 rfl ?_
      refine aw_iload_n dX1_holding_1 rfl ?_
      refine aw_invV_r dX1_holding_2 vX8_conditionAt kX1_121 rfl (CC) ⟨_, (by assumption), _, _, rfl⟩ rfl rfl (by decide) (by decide) (by decide) (Nat.le_of_ble_eq_true rfl) ?_
      refine aw_istore (ls1 := [(5, _), (0, _), (1, _), (2, _), (3, _)]) dX1_holding_5 (by decide) rfl ?_
      refine aw_iload dX1_holding_7 rfl ?_
      refine aw_if_eq (tgt := 22) dX1_holding_9 rfl (by omega) (fun c9 => ?_) (fun c9 => ?_)
      · exact absurd c9 (by omega)
      · refine aw_iload_n dX1_holding_12 rfl ?_
        refine aw_if_lt (tgt := 22) dX1_holding_13 rfl (by omega) (fun c13 => ?_) (fun c13 => ?_)
        · exact absurd c13 (by omega)
        · refine aw_iload_n dX1_holding_16 rfl ?_
          refine aw_bipush dX1_holding_17 rfl ?_
          refine aw_ic_lt (tgt := 24) dX1_holding_19 rfl (by omega) (by omega) (fun c19 => ?_) (fun c19 => ?_)
          · refine aw_aload_n dX1_holding_24 rfl ?_
            refine aw_getr' (j := 1) dX1_holding_25 fX1_15 rfl (by assumption) rfl (by assumption) ?_
            refine aw_iload_n dX1_holding_28 rfl ?_
            refine aw_lald' dX1_holding_29 (by assumption) (by omega) (by first | decide | omega) rfl ?_
            refine aw_lstore (ls1 := [(6, _), (5, _), (0, _), (1, _), (2, _), (3, _)]) dX1_holding_30 (by decide) rfl ?_
            refine aw_iload dX1_holding_32 rfl ?_
            refine aw_invS_r dX1_holding_34 sX0_isPositional kX1_127 rfl (CP) rfl rfl (by decide) (by decide) (by decide) (Nat.le_of_ble_eq_true rfl) ?_
            refine aw_if_eq (tgt := 55) dX1_holding_37 rfl (by omega) (fun c37 => ?_) (fun c37 => ?_)
            · exact absurd c37 (by omega)
            · refine aw_iload dX1_holding_40 rfl ?_
              refine aw_lload_n dX1_holding_42 rfl ?_
              refine aw_aload_n dX1_holding_43 rfl ?_
              refine aw_geti' (j := 0) dX1_holding_44 fX1_86 rfl (by assumption) rfl s0 ?_
              refine aw_invS_r dX1_holding_47 sX10_isReverse kX1_131 rfl (CR) rfl rfl (by decide) (by decide) (by decide) (Nat.le_of_ble_eq_true rfl) ?_
              refine aw_invS_r dX1_holding_50 sX1_placed kX1_134 rfl (CL) rfl rfl (by decide) (by decide) (by decide) (Nat.le_of_ble_eq_true rfl) ?_
              refine aw_lstore (ls1 := [(6, _), (5, _), (0, _), (1, _), (2, _), (3, _)]) dX1_holding_53 (by decide) rfl ?_
              refine aw_sub [0, 1, 2, 3, 4, 5] rfl ?_
              exact F
          · exact absurd c19 (by omega)
    · rw [if_neg (by omega)] at CP
      have F := F (nfS T c) (fun j => by unfold hoO hoC; simp only [if_neg q])
      rw [← hA] at F
      refine Call.of (ls := [(0, vr (some e)), (1, vr (some a)), (2, vi (k : Int)), (3, vl (S9 g))]) vX1_holding.1 (Nat.le_of_ble_eq_true rfl) rfl ?_
      refine aw_aload_n dX1_holding_0 rfl ?_
      refine aw_iload_n dX1_holding_1 rfl ?_
      refine aw_invV_r dX1_holding_2 vX8_conditionAt kX1_121 rfl (CC) ⟨_, (by assumption), _, _, rfl⟩ rfl rfl (by decide) (by decide) (by decide) (Nat.le_of_ble_eq_true rfl) ?_
      refine aw_istore (ls1 := [(5, _), (0, _), (1, _), (2, _), (3, _)]) dX1_holding_5 (by decide) rfl ?_
      refine aw_iload dX1_holding_7 rfl ?_
      refine aw_if_eq (tgt := 22) dX1_holding_9 rfl (by omega) (fun c9 => ?_) (fun c9 => ?_)
      · exact absurd c9 (by omega)
      · refine aw_iload_n dX1_holding_12 rfl ?_
        refine aw_if_lt (tgt := 22) dX1_holding_13 rfl (by omega) (fun c13 => ?_) (fun c13 => ?_)
        · exact absurd c13 (by omega)
        · refine aw_iload_n dX1_holding_16 rfl ?_
          refine aw_bipush dX1_holding_17 rfl ?_
          refine aw_ic_lt (tgt := 24) dX1_holding_19 rfl (by omega) (by omega) (fun c19 => ?_) (fun c19 => ?_)
          · refine aw_aload_n dX1_holding_24 rfl ?_
            refine aw_getr' (j := 1) dX1_holding_25 fX1_15 rfl (by assumption) rfl (by assumption) ?_
            refine aw_iload_n dX1_holding_28 rfl ?_
            refine aw_lald' dX1_holding_29 (by assumption) (by omega) (by first | decide | omega) rfl ?_
            refine aw_lstore (ls1 := [(6, _), (5, _), (0, _), (1, _), (2, _), (3, _)]) dX1_holding_30 (by decide) rfl ?_
            refine aw_iload dX1_holding_32 rfl ?_
            refine aw_invS_r dX1_holding_34 sX0_isPositional kX1_127 rfl (CP) rfl rfl (by decide) (by decide) (by decide) (Nat.le_of_ble_eq_true rfl) ?_
            refine aw_if_eq (tgt := 55) dX1_holding_37 rfl (by omega) (fun c37 => ?_) (fun c37 => ?_)
            · refine aw_sub [0, 1, 2, 3, 4, 5] rfl ?_
              exact F
            · exact absurd c37 (by omega)
          · exact absurd c19 (by omega)
