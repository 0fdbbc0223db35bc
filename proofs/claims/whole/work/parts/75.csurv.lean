/-! ===== Tree: leadingTo, totalOf, copyFrom, survey ===== -/
def anyS (f g : Nat → Bool) : Bool := (List.range 40).any (fun k => f k && g k)
theorem anyS_iff {f g : Nat → Bool} : anyS f g = true ↔ ∃ k, k < 40 ∧ f k = true ∧ g k = true := by
  unfold anyS
  rw [List.any_eq_true]
  constructor
  · rintro ⟨k, h1, h2⟩
    rw [List.mem_range] at h1
    simp only [Bool.and_eq_true] at h2
    exact ⟨k, h1, h2.1, h2.2⟩
  · rintro ⟨k, h1, h2, h3⟩
    exact ⟨k, List.mem_range.mpr h1, by simp [h2, h3]⟩
theorem anyS_0 {f g : Nat → Bool} : S9 (fun k => f k && g k) = 0 ↔ anyS f g = false := by
  rw [S9_0]
  constructor
  · intro h
    have e := S9_inj h
    cases q : anyS f g with
    | false => rfl
    | true =>
      obtain ⟨k, k1, k2, k3⟩ := anyS_iff.mp q
      have := e k k1
      simp [k2, k3] at this
  · intro h
    refine S9_cong (fun k hk => ?_)
    cases q : (f k && g k) with
    | false => rfl
    | true =>
      simp only [Bool.and_eq_true] at q
      rw [anyS_iff.mpr ⟨k, hk, q.1, q.2⟩] at h
      cases h
theorem l_lead {γ : GG} {h : AH} {t : Nat} {T : Tr} {ax : Nat} {g : Nat → Bool} (hT : isTr h t T) (ho : okTr T) (hx : ax ≤ 9) : ∀ (m k : Nat), k + m = tn T → AW γ mX10_leadingTo 2 0 0 6 [(6, vi (k : Int)), (4, vl (S9 (lim (fun v => anyS (alS T (ax : Int) v) g) k))), (0, vr (some t)), (1, vl (S9 g)), (3, vi (ax : Int))] [] h (rV (vl (S9 (lim (fun v => anyS (alS T (ax : Int) v) g) (tn T)))) h) := by
  have KA := fun (v : Nat) (hv : v < tn T) => c_along (γ := γ) hT ho hv hx
  obtain ⟨hS, h0, hc⟩ := hT
  obtain ⟨hk, ⟨r1, k1⟩, ⟨r2, k2⟩, ⟨r3, k3⟩, ⟨r4, k4⟩, ⟨r5, k5⟩, ⟨r6, k6⟩, ⟨r7, k7⟩, ⟨r8, k8⟩, ⟨r9, k9⟩⟩ := hS
  obtain ⟨o1, o2, o3, o4, o5, o6⟩ := ho.o
  intro m
  induction m with
  | zero =>
    intro k hkm
    rw [show tn T = k by omega] at h0 ⊢
    refine aw_iload dX10_leadingTo_6 rfl ?_
    refine aw_aload_n dX10_leadingTo_8 rfl ?_
    refine aw_geti' (j := 0) dX10_leadingTo_9 fX10_9 rfl (by assumption) rfl h0 ?_
    refine aw_ic_ge (tgt := 44) dX10_leadingTo_12 rfl (by omega) (by omega) (fun c12 => ?_) (fun c12 => ?_)
    · refine aw_lload dX10_leadingTo_44 rfl ?_
      exact aw_lreturn dX10_leadingTo_46 rfl (Or.inl rfl) ⟨rfl, rfl⟩
    · exact absurd c12 (by omega)
  | succ m ih =>
    intro k hkm
    have KA := KA k (by omega)
    have I := ih (k + 1) (by omega)
    cases q : anyS (alS T (ax : Int) k) g with
    | true =>
      rw [← lim_t (p := fun v => anyS (alS T (ax : Int) v) g) (show k < 40 by omega) q] at I
      have nz : S9 (fun j => alS T (ax : Int) k j && g j) ≠ 0 := fun z => by rw [anyS_0.mp z] at q; cases q
      refine aw_iload dX10_leadingTo_6 rfl ?_
      refine aw_aload_n dX10_leadingTo_8 rfl ?_
      refine aw_geti' (j := 0) dX10_leadingTo_9 fX10_9 rfl (by assumption) rfl h0 ?_
      refine aw_ic_ge (tgt := 44) dX10_leadingTo_12 rfl (by omega) (by omega) (fun c12 => ?_) (fun c12 => ?_)
      · exact absurd c12 (by omega)
      · refine aw_aload_n dX10_leadingTo_15 rfl ?_
        refine aw_iload_n dX10_leadingTo_16 rfl ?_
        refine aw_iload dX10_leadingTo_17 rfl ?_
        refine aw_invV_r dX10_leadingTo_19 vX10_along kX10_87 rfl (KA) ⟨_, (by assumption), _, _, rfl⟩ rfl rfl (by decide) (by decide) (by decide) (Nat.le_of_ble_eq_true rfl) ?_
        refine aw_lload_n dX10_leadingTo_22 rfl ?_
        refine aw_land dX10_leadingTo_23 ?_
        rw [S9_and]
        refine aw_lconst (v := 0) dX10_leadingTo_24 rfl ?_
        refine aw_lcmp dX10_leadingTo_25 (fun c25 => ?_) (fun z25 hz25 c25 => ?_)
        · exact absurd c25 nz
        · refine aw_if_eq (tgt := 38) dX10_leadingTo_26 rfl (by omega) (fun c26 => ?_) (fun c26 => ?_)
          · exact absurd c26 (by omega)
          · refine aw_lload dX10_leadingTo_29 rfl ?_
            refine aw_lconst (v := 1) dX10_leadingTo_31 rfl ?_
            refine aw_iload dX10_leadingTo_32 rfl ?_
            refine aw_lshl (v := lN (2 ^ k)) dX10_leadingTo_34 (sh1 (by omega) rfl) ?_
            refine aw_lor dX10_leadingTo_35 ?_
            refine aw_lstore (ls1 := [(4, _), (6, _), (0, _), (1, _), (3, _)]) dX10_leadingTo_36 (by decide) rfl ?_
            refine aw_iinc (k9 := 1) (ls1 := [(6, _), (4, _), (0, _), (1, _), (3, _)]) dX10_leadingTo_38 rfl (by decide) rfl ?_
            refine aw_goto (tgt := 6) dX10_leadingTo_41 rfl ?_
            refine aw_sub [0, 1, 2, 3, 4] rfl ?_
            exact I
    | false =>
      rw [← lim_f (p := fun v => anyS (alS T (ax : Int) v) g) q] at I
      have nz : S9 (fun j => alS T (ax : Int) k j && g j) = 0 := anyS_0.mpr q
      refine aw_iload dX10_leadingTo_6 rfl ?_
      refine aw_aload_n dX10_leadingTo_8 rfl ?_
      refine aw_geti' (j := 0) dX10_leadingTo_9 fX10_9 rfl (by assumption) rfl h0 ?_
      refine aw_ic_ge (tgt := 44) dX10_leadingTo_12 rfl (by omega) (by omega) (fun c12 => ?_) (fun c12 => ?_)
      · exact absurd c12 (by omega)
      · refine aw_aload_n dX10_leadingTo_15 rfl ?_
        refine aw_iload_n dX10_leadingTo_16 rfl ?_
        refine aw_iload dX10_leadingTo_17 rfl ?_
        refine aw_invV_r dX10_leadingTo_19 vX10_along kX10_87 rfl (KA) ⟨_, (by assumption), _, _, rfl⟩ rfl rfl (by decide) (by decide) (by decide) (Nat.le_of_ble_eq_true rfl) ?_
        refine aw_lload_n dX10_leadingTo_22 rfl ?_
        refine aw_land dX10_leadingTo_23 ?_
        rw [S9_and]
        refine aw_lconst (v := 0) dX10_leadingTo_24 rfl ?_
        refine aw_lcmp dX10_leadingTo_25 (fun c25 => ?_) (fun z25 hz25 c25 => ?_)
        · refine aw_if_eq (tgt := 38) dX10_leadingTo_26 rfl (by omega) (fun c26 => ?_) (fun c26 => ?_)
          · refine aw_iinc (k9 := 0) (ls1 := [(6, _), (4, _), (0, _), (1, _), (3, _)]) dX10_leadingTo_38 rfl (by decide) rfl ?_
            refine aw_goto (tgt := 6) dX10_leadingTo_41 rfl ?_
            refine aw_sub [0, 1, 2, 3, 4] rfl ?_
            exact I
          · exact absurd c26 (by omega)
        · exact absurd nz c25
def ldS (T : Tr) (ax : Int) (g : Nat → Bool) : Nat → Bool := lim (fun v => anyS (alS T ax v) g) (tn T)
theorem c_leadingTo {γ : GG} {h : AH} {t : Nat} {T : Tr} {ax : Nat} {g : Nat → Bool} (hT : isTr h t T) (ho : okTr T) (hx : ax ≤ 9) : Call γ mX10_leadingTo 2 0 0 [vr (some t), vl (S9 g), vi (ax : Int)] h (rV (vl (S9 (ldS T (ax : Int) g))) h) := by
  have L := l_lead (γ := γ) (g := g) hT ho hx (tn T) 0 (by omega)
  rw [lim_0] at L
  refine Call.of (ls := [(0, vr (some t)), (1, vl (S9 g)), (3, vi (ax : Int))]) vX10_leadingTo.1 (Nat.le_of_ble_eq_true rfl) rfl ?_
  refine aw_lconst (v := 0) dX10_leadingTo_0 rfl ?_
  refine aw_lstore (ls1 := [(4, _), (0, _), (1, _), (3, _)]) dX10_leadingTo_1 (by decide) rfl ?_
  refine aw_iconst dX10_leadingTo_3 ?_
  refine aw_istore (ls1 := [(6, _), (4, _), (0, _), (1, _), (3, _)]) dX10_leadingTo_4 (by decide) rfl ?_
  refine aw_sub [0, 1, 2, 3, 4] rfl ?_
  exact L
def sumT (T : Tr) (f : Nat → Bool) : Nat → Int
  | 0 => 0
  | k + 1 => sumT T f k + (if f k = true then tvl T k else 0)
theorem tb_lN {n k : Nat} (hn : n < 1099511627776) (hk : k < 40) : lN n >>> ((Int32.ofInt (k : Int)).toInt64 &&& 63) = lN (n / 2 ^ k) := by
  rw [nI_ofInt, wb_c k (by omega)]
  exact pf_shr (by rw [wb_tb, wb_sm k (by omega), BitVec.toNat_ofNat, Nat.mod_eq_of_lt (by omega)]) (by omega)
theorem tb_and {n k : Nat} (hn : n < 1099511627776) : lN (n / 2 ^ k) &&& 1 = lN (n / 2 ^ k % 2) := wb_a1 (Nat.lt_of_le_of_lt (Nat.div_le_self _ _) (by omega))
theorem tb_z {f : Nat → Bool} {k : Nat} (hk : k < 40) : mkS f / 2 ^ k % 2 = if f k = true then 1 else 0 := by
  have a := mkS_tb f k
  rw [Nat.testBit_eq_decide_div_mod_eq] at a
  cases q : f k with
  | true =>
    rw [q] at a
    simp [hk] at a
    rw [a]
    rfl
  | false =>
    rw [q] at a
    simp at a
    rw [a]
    rfl
theorem l_total {γ : GG} {h : AH} {t : Nat} {T : Tr} {f : Nat → Bool} (hT : isTr h t T) (ho : okTr T) : ∀ (m k : Nat), k + m = tn T → AW γ mX10_totalOf 0 0 0 5 [(4, vi (k : Int)), (3, vi (sumT T f k)), (0, vr (some t)), (1, vl (S9 f))] [] h (rV (vi (sumT T f (tn T))) h) := by
  obtain ⟨hS, h0, hc⟩ := hT
  obtain ⟨hk, ⟨r1, k1⟩, ⟨r2, k2⟩, ⟨r3, k3⟩, ⟨r4, k4⟩, ⟨r5, k5⟩, ⟨r6, k6⟩, ⟨r7, k7⟩, ⟨r8, k8⟩, ⟨r9, k9⟩⟩ := hS
  obtain ⟨o1, o2, o3, o4, o5, o6⟩ := ho.o
  have fl := mkS_lt f
  intro m
  induction m with
  | zero =>
    intro k hkm
    rw [show tn T = k by omega] at h0 ⊢
    refine aw_iload dX10_totalOf_5 rfl ?_
    refine aw_aload_n dX10_totalOf_7 rfl ?_
    refine aw_geti' (j := 0) dX10_totalOf_8 fX10_9 rfl (by assumption) rfl h0 ?_
    refine aw_ic_ge (tgt := 41) dX10_totalOf_11 rfl (by omega) (by omega) (fun c11 => ?_) (fun c11 => ?_)
    · refine aw_iload_n dX10_totalOf_41 rfl ?_
      exact aw_ireturn dX10_totalOf_42 rfl (Or.inl rfl) ⟨rfl, rfl⟩
    · exact absurd c11 (by omega)
  | succ m ih =>
    intro k hkm
    have I := ih (k + 1) (by omega)
    have cc := (hc k (by omega)).2.1
    have e1 := tb_z (f := f) (show k < 40 by omega)
    simp only [sumT] at I
    cases q : f k with
    | true =>
      rw [q, if_pos rfl] at e1 I
      have nz : lN (mkS f / 2 ^ k % 2) ≠ 0 := by rw [e1]; decide
      refine aw_iload dX10_totalOf_5 rfl ?_
      refine aw_aload_n dX10_totalOf_7 rfl ?_
      refine aw_geti' (j := 0) dX10_totalOf_8 fX10_9 rfl (by assumption) rfl h0 ?_
      refine aw_ic_ge (tgt := 41) dX10_totalOf_11 rfl (by omega) (by omega) (fun c11 => ?_) (fun c11 => ?_)
      · exact absurd c11 (by omega)
      · refine aw_lload_n dX10_totalOf_14 rfl ?_
        refine aw_iload dX10_totalOf_15 rfl ?_
        refine aw_lshr (v := lN (mkS f / 2 ^ k)) dX10_totalOf_17 (tb_lN fl (by omega)) ?_
        refine aw_lconst (v := 1) dX10_totalOf_18 rfl ?_
        refine aw_land dX10_totalOf_19 ?_
        rw [tb_and fl]
        refine aw_lconst (v := 0) dX10_totalOf_20 rfl ?_
        refine aw_lcmp dX10_totalOf_21 (fun c21 => ?_) (fun z21 hz21 c21 => ?_)
        · exact absurd c21 nz
        · refine aw_if_eq (tgt := 35) dX10_totalOf_22 rfl (by omega) (fun c22 => ?_) (fun c22 => ?_)
          · exact absurd c22 (by omega)
          · refine aw_iload_n dX10_totalOf_25 rfl ?_
            refine aw_aload_n dX10_totalOf_26 rfl ?_
            refine aw_getr' (j := 2) dX10_totalOf_27 fX10_19 rfl (by assumption) rfl (by assumption) ?_
            refine aw_iload dX10_totalOf_30 rfl ?_
            refine aw_iald' dX10_totalOf_32 (by assumption) (by omega) (by first | decide | omega) cc ?_
            refine aw_iadd dX10_totalOf_33 ?_
            refine aw_istore_n (ls1 := [(3, _), (4, _), (0, _), (1, _)]) dX10_totalOf_34 (by decide) rfl ?_
            refine aw_iinc (k9 := 1) (ls1 := [(4, _), (3, _), (0, _), (1, _)]) dX10_totalOf_35 rfl (by decide) rfl ?_
            refine aw_goto (tgt := 5) dX10_totalOf_38 rfl ?_
            refine aw_sub [0, 1, 2, 3] rfl ?_
            exact I
    | false =>
      rw [q, if_neg (by decide)] at e1 I
      rw [Int.add_zero] at I
      have nz : lN (mkS f / 2 ^ k % 2) = 0 := by rw [e1]; rfl
      refine aw_iload dX10_totalOf_5 rfl ?_
      refine aw_aload_n dX10_totalOf_7 rfl ?_
      refine aw_geti' (j := 0) dX10_totalOf_8 fX10_9 rfl (by assumption) rfl h0 ?_
      refine aw_ic_ge (tgt := 41) dX10_totalOf_11 rfl (by omega) (by omega) (fun c11 => ?_) (fun c11 => ?_)
      · exact absurd c11 (by omega)
      · refine aw_lload_n dX10_totalOf_14 rfl ?_
        refine aw_iload dX10_totalOf_15 rfl ?_
        refine aw_lshr (v := lN (mkS f / 2 ^ k)) dX10_totalOf_17 (tb_lN fl (by omega)) ?_
        refine aw_lconst (v := 1) dX10_totalOf_18 rfl ?_
        refine aw_land dX10_totalOf_19 ?_
        rw [tb_and fl]
        refine aw_lconst (v := 0) dX10_totalOf_20 rfl ?_
        refine aw_lcmp dX10_totalOf_21 (fun c21 => ?_) (fun z21 hz21 c21 => ?_)
        · refine aw_if_eq (tgt := 35) dX10_totalOf_22 rfl (by omega) (fun c22 => ?_) (fun c22 => ?_)
          · refine aw_iinc (k9 := 0) (ls1 := [(4, _), (3, _), (0, _), (1, _)]) dX10_totalOf_35 rfl (by decide) rfl ?_
            refine aw_goto (tgt := 5) dX10_totalOf_38 rfl ?_
            refine aw_sub [0, 1, 2, 3] rfl ?_
            exact I
          · exact absurd c22 (by omega)
        · exact absurd nz c21
theorem c_totalOf {γ : GG} {h : AH} {t : Nat} {T : Tr} {f : Nat → Bool} (hT : isTr h t T) (ho : okTr T) : Call γ mX10_totalOf 0 0 0 [vr (some t), vl (S9 f)] h (rV (vi (sumT T f (tn T))) h) := by
  have L := l_total (γ := γ) (f := f) hT ho (tn T) 0 (by omega)
  refine Call.of (ls := [(0, vr (some t)), (1, vl (S9 f))]) vX10_totalOf.1 (Nat.le_of_ble_eq_true rfl) rfl ?_
  refine aw_iconst dX10_totalOf_0 ?_
  refine aw_istore_n (ls1 := [(3, _), (0, _), (1, _)]) dX10_totalOf_1 (by decide) rfl ?_
  refine aw_iconst dX10_totalOf_2 ?_
  refine aw_istore (ls1 := [(4, _), (3, _), (0, _), (1, _)]) dX10_totalOf_3 (by decide) rfl ?_
  refine aw_sub [0, 1, 2, 3] rfl ?_
  exact L
def hCT (h : AH) (t b : Nat) : AH := cpL (cpL (cpI (cpI (cpI (cpI (si h t 0 (gi h b 0)) (b + 1) 0 (t + 1) 0 40) (b + 2) 0 (t + 2) 0 40) (b + 3) 0 (t + 3) 0 40) (b + 4) 0 (t + 4) 0 40) (b + 5) 0 (t + 5) 0 40) (b + 6) 0 (t + 6) 0 40
theorem c_tcopy {γ : GG} {h : AH} {t b : Nat} (hS : shTr h t) (hSb : shTr h b) (hab : t + 10 ≤ b ∨ b + 10 ≤ t) : Call γ mX10_copyFrom 1 0 0 [vr (some t), vr (some b)] h (rN (hCT h t b)) := by
  obtain ⟨hk, ⟨r1, k1⟩, ⟨r2, k2⟩, ⟨r3, k3⟩, ⟨r4, k4⟩, ⟨r5, k5⟩, ⟨r6, k6⟩, ⟨r7, k7⟩, ⟨r8, k8⟩, ⟨r9, k9⟩⟩ := hS
  obtain ⟨hkb, ⟨rb1, kb1⟩, ⟨rb2, kb2⟩, ⟨rb3, kb3⟩, ⟨rb4, kb4⟩, ⟨rb5, kb5⟩, ⟨rb6, kb6⟩, ⟨rb7, kb7⟩, ⟨rb8, kb8⟩, ⟨rb9, kb9⟩⟩ := hSb
  refine Call.of (ls := [(0, vr (some t)), (1, vr (some b))]) vX10_copyFrom.1 (Nat.le_of_ble_eq_true rfl) rfl ?_
  refine aw_aload_n dX10_copyFrom_0 rfl ?_
  refine aw_aload_n dX10_copyFrom_1 rfl ?_
  refine aw_geti' (j := 0) dX10_copyFrom_2 fX10_9 rfl (by assumption) rfl rfl ?_
  refine aw_puti' (j := 0) rfl dX10_copyFrom_5 fX10_9 (by assumption) rfl ?_
  refine aw_aload_n dX10_copyFrom_8 rfl ?_
  refine aw_getr' (j := 1) dX10_copyFrom_9 fX10_15 rfl (by assumption) rfl (by assumption) ?_
  refine aw_iconst dX10_copyFrom_12 ?_
  refine aw_aload_n dX10_copyFrom_13 rfl ?_
  refine aw_getr' (j := 1) dX10_copyFrom_14 fX10_15 rfl (by assumption) rfl (by assumption) ?_
  refine aw_iconst dX10_copyFrom_17 ?_
  refine aw_bipush dX10_copyFrom_18 rfl ?_
  refine aw_copyI dX10_copyFrom_20 aX10_44 (by assumption) (by assumption) (by decide) (by decide) (by omega) (by decide) (Nat.le_of_ble_eq_true rfl) ?_
  refine aw_aload_n dX10_copyFrom_23 rfl ?_
  refine aw_getr' (j := 2) dX10_copyFrom_24 fX10_19 rfl (by assumption) rfl (by assumption) ?_
  refine aw_iconst dX10_copyFrom_27 ?_
  refine aw_aload_n dX10_copyFrom_28 rfl ?_
  refine aw_getr' (j := 2) dX10_copyFrom_29 fX10_19 rfl (by assumption) rfl (by assumption) ?_
  refine aw_iconst dX10_copyFrom_32 ?_
  refine aw_bipush dX10_copyFrom_33 rfl ?_
  refine aw_copyI dX10_copyFrom_35 aX10_44 (by assumption) (by assumption) (by decide) (by decide) (by omega) (by decide) (Nat.le_of_ble_eq_true rfl) ?_
  refine aw_aload_n dX10_copyFrom_38 rfl ?_
  refine aw_getr' (j := 3) dX10_copyFrom_39 fX10_22 rfl (by assumption) rfl (by assumption) ?_
  refine aw_iconst dX10_copyFrom_42 ?_
  refine aw_aload_n dX10_copyFrom_43 rfl ?_
  refine aw_getr' (j := 3) dX10_copyFrom_44 fX10_22 rfl (by assumption) rfl (by assumption) ?_
  refine aw_iconst dX10_copyFrom_47 ?_
  refine aw_bipush dX10_copyFrom_48 rfl ?_
  refine aw_copyI dX10_copyFrom_50 aX10_44 (by assumption) (by assumption) (by decide) (by decide) (by omega) (by decide) (Nat.le_of_ble_eq_true rfl) ?_
  refine aw_aload_n dX10_copyFrom_53 rfl ?_
  refine aw_getr' (j := 4) dX10_copyFrom_54 fX10_25 rfl (by assumption) rfl (by assumption) ?_
  refine aw_iconst dX10_copyFrom_57 ?_
  refine aw_aload_n dX10_copyFrom_58 rfl ?_
  refine aw_getr' (j := 4) dX10_copyFrom_59 fX10_25 rfl (by assumption) rfl (by assumption) ?_
  refine aw_iconst dX10_copyFrom_62 ?_
  refine aw_bipush dX10_copyFrom_63 rfl ?_
  refine aw_copyI dX10_copyFrom_65 aX10_44 (by assumption) (by assumption) (by decide) (by decide) (by omega) (by decide) (Nat.le_of_ble_eq_true rfl) ?_
  refine aw_aload_n dX10_copyFrom_68 rfl ?_
  refine aw_getr' (j := 5) dX10_copyFrom_69 fX10_28 rfl (by assumption) rfl (by assumption) ?_
  refine aw_iconst dX10_copyFrom_72 ?_
  refine aw_aload_n dX10_copyFrom_73 rfl ?_
  refine aw_getr' (j := 5) dX10_copyFrom_74 fX10_28 rfl (by assumption) rfl (by assumption) ?_
  refine aw_iconst dX10_copyFrom_77 ?_
  refine aw_bipush dX10_copyFrom_78 rfl ?_
  refine aw_copyL dX10_copyFrom_80 aX10_44 (by assumption) (by assumption) (by decide) (by decide) (by omega) (by decide) (Nat.le_of_ble_eq_true rfl) ?_
  refine aw_aload_n dX10_copyFrom_83 rfl ?_
  refine aw_getr' (j := 6) dX10_copyFrom_84 fX10_32 rfl (by assumption) rfl (by assumption) ?_
  refine aw_iconst dX10_copyFrom_87 ?_
  refine aw_aload_n dX10_copyFrom_88 rfl ?_
  refine aw_getr' (j := 6) dX10_copyFrom_89 fX10_32 rfl (by assumption) rfl (by assumption) ?_
  refine aw_iconst dX10_copyFrom_92 ?_
  refine aw_bipush dX10_copyFrom_93 rfl ?_
  refine aw_copyL dX10_copyFrom_95 aX10_44 (by assumption) (by assumption) (by decide) (by decide) (by omega) (by decide) (Nat.le_of_ble_eq_true rfl) ?_
  exact aw_return dX10_copyFrom_98 rfl (Or.inl rfl) ⟨rfl, rfl⟩
theorem gi_cpo {h : AH} {a0 a1 b : Nat} {sp dp n k : Int} (hb : b ≠ a1) : gi (cpI h a0 sp a1 dp n) b k = gi h b k := by rw [gi_cpI, if_neg (fun z => hb z.1)]
theorem gl_cpo {h : AH} {a0 a1 b : Nat} {sp dp n k : Int} (hb : b ≠ a1) : gl (cpL h a0 sp a1 dp n) b k = gl h b k := by rw [gl_cpL, if_neg (fun z => hb z.1)]
theorem gi_cpa {h : AH} {a0 a1 : Nat} {k : Int} (h1 : 0 ≤ k) (h2 : k < 40) : gi (cpI h a0 0 a1 0 40) a1 k = gi h a0 k := by rw [gi_cpI, if_pos ⟨rfl, h1, by omega⟩, show (0 : Int) + (k - 0) = k by omega]
theorem gl_cpa {h : AH} {a0 a1 : Nat} {k : Int} (h1 : 0 ≤ k) (h2 : k < 40) : gl (cpL h a0 0 a1 0 40) a1 k = gl h a0 k := by rw [gl_cpL, if_pos ⟨rfl, h1, by omega⟩, show (0 : Int) + (k - 0) = k by omega]
theorem isTr_copy {h : AH} {t b : Nat} {T : Tr} (hS : shTr h t) (hB : isTr h b T) (hn : tn T ≤ 40) (hab : t + 10 ≤ b ∨ b + 10 ≤ t) : isTr (hCT h t b) t T ∧ eqO h (hCT h t b) t (t + 10) := by
  obtain ⟨-, h0, hc⟩ := hB
  have E : eqO h (hCT h t b) t (t + 10) := by
    refine ⟨rfl, fun c hc => ⟨rfl, fun j => ⟨?_, ?_, rfl⟩⟩⟩
    · show gi (cpI (cpI (cpI (cpI (si h t 0 (gi h b 0)) (b + 1) 0 (t + 1) 0 40) (b + 2) 0 (t + 2) 0 40) (b + 3) 0 (t + 3) 0 40) (b + 4) 0 (t + 4) 0 40) c j = _
      rw [gi_cpo (by omega), gi_cpo (by omega), gi_cpo (by omega), gi_cpo (by omega), gi_ne (Or.inl (by omega))]
    · unfold hCT
      rw [gl_cpo (by omega), gl_cpo (by omega)]
      rfl
  refine ⟨⟨hS, ?_, fun k hk => ?_⟩, E⟩
  · show gi (cpI (cpI (cpI (cpI (si h t 0 (gi h b 0)) (b + 1) 0 (t + 1) 0 40) (b + 2) 0 (t + 2) 0 40) (b + 3) 0 (t + 3) 0 40) (b + 4) 0 (t + 4) 0 40) t 0 = _
    rw [gi_cpo (by omega), gi_cpo (by omega), gi_cpo (by omega), gi_cpo (by omega), gi_at rfl rfl]
    exact h0
  · obtain ⟨a1, a2, a3, a4, a5, a6⟩ := hc k hk
    have e : ∀ c j, gi (hCT h t b) c j = gi (cpI (cpI (cpI (cpI (si h t 0 (gi h b 0)) (b + 1) 0 (t + 1) 0 40) (b + 2) 0 (t + 2) 0 40) (b + 3) 0 (t + 3) 0 40) (b + 4) 0 (t + 4) 0 40) c j := fun c j => rfl
    refine ⟨?_, ?_, ?_, ?_, ?_, ?_⟩
    · rw [e, gi_cpo (by omega), gi_cpo (by omega), gi_cpo (by omega), gi_cpa (by omega) (by omega), gi_ne (Or.inl (by omega))]
      exact a1
    · rw [e, gi_cpo (by omega), gi_cpo (by omega), gi_cpa (by omega) (by omega), gi_cpo (by omega), gi_ne (Or.inl (by omega))]
      exact a2
    · rw [e, gi_cpo (by omega), gi_cpa (by omega) (by omega), gi_cpo (by omega), gi_cpo (by omega), gi_ne (Or.inl (by omega))]
      exact a3
    · rw [e, gi_cpa (by omega) (by omega), gi_cpo (by omega), gi_cpo (by omega), gi_cpo (by omega), gi_ne (Or.inl (by omega))]
      exact a4
    · unfold hCT
      rw [gl_cpo (by omega), gl_cpa (by omega) (by omega)]
      exact a5
    · unfold hCT
      rw [gl_cpa (by omega) (by omega), gl_cpo (by omega)]
      exact a6
/-! the ends of a tree's nodes, as survey finds them -/
theorem sub_end {T : Tr} (ho : okTr T) {k p : Nat} (hk1 : 1 ≤ k) (hk : k < tn T) (hp : tpa T k = p) : k < endT T p ∧ endT T k ≤ endT T p := by
  obtain ⟨o1, o2, o3, o4, o5, o6⟩ := ho.o
  have d := o5 k hk1 hk
  have hpk : p < k := by omega
  have hpn : p < tn T := by omega
  obtain ⟨e1, e2, e3, e4⟩ := endT_spec hpn
  obtain ⟨f1, f2, f3, f4⟩ := endT_spec hk
  have a : k < endT T p := (endT_iff ho hpn hk hpk).mpr (fun i i1 i2 => by
    by_cases z : i = k
    · rw [z]; omega
    · have := o6 k i hk1 hk (by omega) (by omega)
      omega)
  refine ⟨a, ?_⟩
  by_cases z : endT T k ≤ endT T p
  · exact z
  · have b1 := f3 (endT T p) (by omega) (by omega)
    have b2 := e4 (by omega)
    omega
theorem last_child {T : Tr} (ho : okTr T) {k p : Nat} (hk1 : 1 ≤ k) (hk : k < tn T) (hp : tpa T k = p) (hl : ∀ c, k < c → c < tn T → tpa T c ≠ p) : endT T k = endT T p := by
  obtain ⟨a1, a2⟩ := sub_end ho hk1 hk hp
  obtain ⟨o1, o2, o3, o4, o5, o6⟩ := ho.o
  have d := o5 k hk1 hk
  obtain ⟨e1, e2, e3, e4⟩ := endT_spec (T := T) (v := p) (by omega)
  obtain ⟨f1, f2, f3, f4⟩ := endT_spec hk
  by_cases z : endT T k = endT T p
  · exact z
  · have b1 := f4 (by omega)
    have b2 := e3 (endT T k) (by omega) (by omega)
    have b3 := hl (endT T k) (by omega) (by omega)
    have b4 := o6 (endT T k) k (by omega) (by omega) (by omega) (by omega)
    omega
theorem end_leaf {T : Tr} (ho : okTr T) {k : Nat} (hk : k < tn T) (hl : ∀ c, k < c → c < tn T → tpa T c ≠ k) : endT T k = k + 1 := by
  obtain ⟨o1, o2, o3, o4, o5, o6⟩ := ho.o
  obtain ⟨f1, f2, f3, f4⟩ := endT_spec hk
  by_cases z : endT T k = k + 1
  · exact z
  · have b1 := f3 (k + 1) (by omega) (by omega)
    have b2 := o5 (k + 1) (by omega) (by omega)
    have b3 := hl (k + 1) (by omega) (by omega)
    omega
theorem an_step {T : Tr} (ho : okTr T) {k p : Nat} (hk1 : 1 ≤ k) (hk : k < tn T) (hp : tpa T k = p) (u : Nat) : anS T k u = (anS T p u || decide (u = p)) := by
  obtain ⟨a1, a2⟩ := sub_end ho hk1 hk hp
  obtain ⟨o1, o2, o3, o4, o5, o6⟩ := ho.o
  have d := o5 k hk1 hk
  unfold anS
  by_cases q : u = p
  · subst q
    simp [a1]
    omega
  · by_cases q2 : u < p
    · have hpn : p < tn T := by omega
      have i1 := endT_iff ho (show u < tn T by omega) hpn q2
      have i2 := endT_iff ho (show u < tn T by omega) hk (by omega)
      have : k < endT T u ↔ p < endT T u := by
        constructor
        · intro z; omega
        · intro z
          refine i2.mpr (fun i j1 j2 => ?_)
          by_cases w1 : i ≤ p
          · exact i1.mp z i j1 w1
          · by_cases w2 : i = k
            · rw [w2]; omega
            · have := o6 k i hk1 hk (by omega) (by omega)
              omega
      by_cases z : p < endT T u
      · simp [q, q2, z, this.mpr z, show u < k by omega]
      · simp [q, q2, z, show ¬ k < endT T u from fun y => z (this.mp y)]
    · have : ¬ (u < k ∧ k < endT T u) := by
        rintro ⟨z1, z2⟩
        have := (endT_iff ho (show u < tn T by omega) hk z1).mp z2 k z1 (Nat.le_refl _)
        omega
      simp [q, q2, this]
def hasC (T : Tr) (k j : Nat) : Bool := (List.range (tn T)).any (fun c => decide (k < c ∧ tpa T c = j))
theorem hasC_iff {T : Tr} {k j : Nat} : hasC T k j = true ↔ ∃ c, k < c ∧ c < tn T ∧ tpa T c = j := by
  unfold hasC
  rw [List.any_eq_true]
  constructor
  · rintro ⟨c, h1, h2⟩
    rw [List.mem_range] at h1
    simp only [decide_eq_true_eq] at h2
    exact ⟨c, h2.1, h1, h2.2⟩
  · rintro ⟨c, h1, h2, h3⟩
    exact ⟨c, List.mem_range.mpr h2, by simp [h1, h3]⟩
/-- what lasts holds when the nodes behind k are looked at -/
def lsV (T : Tr) (k j : Nat) : Int := if hasC T k j = true then (endT T j : Int) - 1 else j
theorem lsV_top {T : Tr} {k j : Nat} (h : tn T ≤ k + 1) : lsV T k j = j := by
  unfold lsV
  rw [if_neg]
  intro z
  obtain ⟨c, c1, c2, -⟩ := hasC_iff.mp z
  omega
theorem lsV_own {T : Tr} (ho : okTr T) {k : Nat} (hk : k < tn T) : lsV T k k = (endT T k : Int) - 1 := by
  unfold lsV
  by_cases q : hasC T k k = true
  · rw [if_pos q]
  · rw [if_neg q, end_leaf ho hk (fun c c1 c2 c3 => q (hasC_iff.mpr ⟨c, c1, c2, c3⟩))]
    omega
theorem lsV_0 {T : Tr} (ho : okTr T) {j : Nat} (hj : j < tn T) : lsV T 0 j = (endT T j : Int) - 1 := by
  unfold lsV
  by_cases q : hasC T 0 j = true
  · rw [if_pos q]
  · rw [if_neg q, end_leaf ho hj (fun c c1 c2 c3 => q (hasC_iff.mpr ⟨c, by omega, c2, c3⟩))]
    omega
theorem lsV_ne {T : Tr} {k j p : Nat} (hk1 : 1 ≤ k) (hp : tpa T k = p) (hj : j ≠ p) : lsV T (k - 1) j = lsV T k j := by
  unfold lsV
  have : hasC T (k - 1) j = hasC T k j := by
    cases e : hasC T k j with
    | true =>
      obtain ⟨c, c1, c2, c3⟩ := hasC_iff.mp e
      exact hasC_iff.mpr ⟨c, by omega, c2, c3⟩
    | false =>
      cases e2 : hasC T (k - 1) j with
      | false => rfl
      | true =>
        obtain ⟨c, c1, c2, c3⟩ := hasC_iff.mp e2
        have : c ≠ k := fun z => by subst z; omega
        rw [hasC_iff.mpr ⟨c, by omega, c2, c3⟩] at e
        cases e
  rw [this]
theorem lsV_p {T : Tr} (ho : okTr T) {k p : Nat} (hk1 : 1 ≤ k) (hk : k < tn T) (hp : tpa T k = p) : lsV T (k - 1) p = max (lsV T k p) (lsV T k k) := by
  obtain ⟨a1, a2⟩ := sub_end ho hk1 hk hp
  rw [lsV_own ho hk]
  have e1 : lsV T (k - 1) p = (endT T p : Int) - 1 := by
    unfold lsV
    rw [if_pos (hasC_iff.mpr ⟨k, by omega, hk, hp⟩)]
  rw [e1]
  have d := (ho.o).2.2.2.2.1 k hk1 hk
  obtain ⟨f1, f2, f3, f4⟩ := endT_spec hk
  unfold lsV
  by_cases q : hasC T k p = true
  · rw [if_pos q]
    omega
  · rw [if_neg q, last_child ho hk1 hk hp (fun c c1 c2 c3 => q (hasC_iff.mpr ⟨c, c1, c2, c3⟩))]
    omega
