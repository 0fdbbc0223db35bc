/-! ===== the outer class: digest ===== -/
theorem itr9_0 {f : Nat → Int64 → Int64} {z : Int64} : itr9 f 0 z = z := rfl
theorem itr9_s {f : Nat → Int64 → Int64} {n : Nat} {z : Int64} : itr9 f (n + 1) z = f n (itr9 f n z) := rfl
theorem hTr_e (T : Tr) (z : Int64) : itr9 (fun v z => itr9 (fun k z => mx9 z (telT T v (k : Int))) 6 z) (tn T) z = hTr T z := rfl
theorem hSz_e (q : TQ) (z : Int64) : itr9 (fun k z => mx9 z (sizV q (k : Int))) 6 z = hSz q z := rfl
theorem hWr_e (q : TQ) (z : Int64) : itr9 (fun k z => mx9 z ((wQry q).getD k 0)) (wQry q).length z = hWr q z := rfl
theorem hSe_e (T : Tr) (q : TQ) (z : Int64) : itr9 (fun c z => mx9 (mx9 z ((fb_ct (selF T q c) 40 : Nat) : Int)) (sumT T (selF T q c) (tn T))) (tn T) z = hSe T q z := rfl
theorem hUs_e (q : TQ) (z : Int64) : itr9 (fun r z => mx9 z ((rwQ q).2 (r + 1))) 9 z = hUs q z := rfl
theorem i_ht39 {γ : GG} {h : AH} {c v : Nat} {z z0 : Int64} {F : FS} {Q : AR → AH → Prop} (hC : isCl h c F) (hv : v < tn F.1.1) (kk : AW γ mX11_hashTree 2 0 0 74 [(5, vi (v : Int)), (3, vl (itr9 (fun k z => mx9 z (telT F.1.1 v (k : Int))) 6 z)), (0, vr (some c)), (1, vl z0)] [] h Q) : ∀ (m k : Nat), k + m = 6 → AW γ mX11_hashTree 2 0 0 39 [(6, vi (k : Int)), (5, vi (v : Int)), (3, vl (itr9 (fun k z => mx9 z (telT F.1.1 v (k : Int))) k z)), (0, vr (some c)), (1, vl z0)] [] h Q := by
  obtain ⟨S, U, tx⟩ := F
  obtain ⟨T, qs⟩ := S
  obtain ⟨hkc, r0, r1, r2, r3, r4, r5, r6, r7, r8, hks, s0, s1, hkq, hkt⟩ := cl_f hC
  have hT : isTr h (c + 1 + 1) T := hC.2.1.2.1
  have oT : okTr T := hC.2.2.2.2.2.1.1
  have n40 := oT.o.2.1
  have gt0 : gi h (c + 1 + 1) 0 = (tn T : Int) := hT.2.1
  have hv : v < tn T := hv
  intro m
  induction m with
  | zero =>
    intro k hk
    obtain rfl : k = 6 := by omega
    refine aw_iload dX11_hashTree_39 rfl ?_
    refine aw_bipush dX11_hashTree_41 rfl ?_
    refine aw_ic_ge (tgt := 74) dX11_hashTree_43 rfl (by omega) (by omega) (fun c43 => ?_) (fun c43 => ?_)
    · refine aw_sub [1, 2, 3, 4] rfl ?_
      exact kk
    · exact absurd c43 (by omega)
  | succ m ih =>
    intro k hk
    have I := ih (k + 1) (by omega)
    rw [itr9_s] at I
    refine aw_iload dX11_hashTree_39 rfl ?_
    refine aw_bipush dX11_hashTree_41 rfl ?_
    refine aw_ic_ge (tgt := 74) dX11_hashTree_43 rfl (by omega) (by omega) (fun c43 => ?_) (fun c43 => ?_)
    · exact absurd c43 (by omega)
    · refine aw_ldc2 dX11_hashTree_46 qX11_241 ?_
      refine aw_lload_n dX11_hashTree_49 rfl ?_
      refine aw_lmul dX11_hashTree_50 ?_
      refine aw_aload_n dX11_hashTree_51 rfl ?_
      refine aw_getr' (j := 0) dX11_hashTree_52 fX11_12 rfl (by assumption) rfl (by assumption) ?_
      refine aw_getr' (j := 0) dX11_hashTree_55 fX11_73 rfl (by assumption) rfl (by assumption) ?_
      refine aw_iload dX11_hashTree_58 rfl ?_
      refine aw_iload dX11_hashTree_60 rfl ?_
      refine aw_invV_r dX11_hashTree_62 vX10_tell kX11_123 rfl (c_tell (γ := γ) hT hv n40 (by omega)) ⟨_, (by assumption), _, _, rfl⟩ rfl rfl (by decide) (by decide) (by decide) (Nat.le_of_ble_eq_true rfl) ?_
      refine aw_i2l dX11_hashTree_65 rfl ?_
      refine aw_ladd dX11_hashTree_66 ?_
      refine aw_lstore_n (ls1 := [(3, _), (6, _), (5, _), (0, _), (1, _)]) dX11_hashTree_67 (by decide) rfl ?_
      refine aw_iinc (k9 := 1) (ls1 := [(6, _), (3, _), (5, _), (0, _), (1, _)]) dX11_hashTree_68 rfl (by decide) rfl ?_
      refine aw_goto (tgt := 39) dX11_hashTree_71 rfl ?_
      refine aw_sub [0, 2, 1, 3, 4] rfl ?_
      exact I
theorem l_ht21 {γ : GG} {h : AH} {c : Nat} {z z0 : Int64} {F : FS} (hC : isCl h c F) : ∀ (m v : Nat), v + m = tn F.1.1 → AW γ mX11_hashTree 2 0 0 21 [(5, vi (v : Int)), (3, vl (itr9 (fun v z => itr9 (fun k z => mx9 z (telT F.1.1 v (k : Int))) 6 z) v z)), (0, vr (some c)), (1, vl z0)] [] h (rV (vl (hTr F.1.1 z)) h) := by
  have hC0 := hC
  obtain ⟨S, U, tx⟩ := F
  obtain ⟨T, qs⟩ := S
  obtain ⟨hkc, r0, r1, r2, r3, r4, r5, r6, r7, r8, hks, s0, s1, hkq, hkt⟩ := cl_f hC
  have hT : isTr h (c + 1 + 1) T := hC.2.1.2.1
  have oT : okTr T := hC.2.2.2.2.2.1.1
  have n40 := oT.o.2.1
  have gt0 : gi h (c + 1 + 1) 0 = (tn T : Int) := hT.2.1
  intro m
  induction m with
  | zero =>
    intro v hk
    have hk : v = tn T := hk
    subst hk
    rw [hTr_e]
    refine aw_iload dX11_hashTree_21 rfl ?_
    refine aw_aload_n dX11_hashTree_23 rfl ?_
    refine aw_getr' (j := 0) dX11_hashTree_24 fX11_12 rfl (by assumption) rfl (by assumption) ?_
    refine aw_getr' (j := 0) dX11_hashTree_27 fX11_73 rfl (by assumption) rfl (by assumption) ?_
    refine aw_geti' (j := 0) dX11_hashTree_30 fX11_77 rfl (by assumption) rfl gt0 ?_
    refine aw_ic_ge (tgt := 80) dX11_hashTree_33 rfl (by omega) (by omega) (fun c33 => ?_) (fun c33 => ?_)
    · refine aw_lload_n dX11_hashTree_80 rfl ?_
      exact aw_lreturn dX11_hashTree_81 rfl (Or.inl rfl) ⟨rfl, rfl⟩
    · exact absurd c33 (by omega)
  | succ m ih =>
    intro v hk
    have hk : v + (m + 1) = tn T := hk
    have I := ih (v + 1) (by show v + 1 + m = tn T; omega)
    rw [itr9_s] at I
    have J := i_ht39 (γ := γ) (z0 := z0) (z := itr9 (fun v z => itr9 (fun k z => mx9 z (telT T v (k : Int))) 6 z) v z) (v := v) (Q := rV (vl (hTr T z)) h) hC0 (show v < tn T by omega) (by
      refine aw_iinc (k9 := 0) (ls1 := [(5, _), (3, _), (0, _), (1, _)]) dX11_hashTree_74 rfl (by decide) rfl ?_
      refine aw_goto (tgt := 21) dX11_hashTree_77 rfl ?_
      refine aw_sub [0, 1, 2, 3] rfl ?_
      exact I) 6 0 rfl
    rw [itr9_0] at J
    refine aw_iload dX11_hashTree_21 rfl ?_
    refine aw_aload_n dX11_hashTree_23 rfl ?_
    refine aw_getr' (j := 0) dX11_hashTree_24 fX11_12 rfl (by assumption) rfl (by assumption) ?_
    refine aw_getr' (j := 0) dX11_hashTree_27 fX11_73 rfl (by assumption) rfl (by assumption) ?_
    refine aw_geti' (j := 0) dX11_hashTree_30 fX11_77 rfl (by assumption) rfl gt0 ?_
    refine aw_ic_ge (tgt := 80) dX11_hashTree_33 rfl (by omega) (by omega) (fun c33 => ?_) (fun c33 => ?_)
    · exact absurd c33 (by omega)
    · refine aw_iconst dX11_hashTree_36 ?_
      refine aw_istore (ls1 := [(6, _), (5, _), (3, _), (0, _), (1, _)]) dX11_hashTree_37 (by decide) rfl ?_
      refine aw_sub [0, 1, 2, 3, 4] rfl ?_
      exact J
theorem c_hTree {γ : GG} {h : AH} {c : Nat} {z : Int64} {F : FS} (hC : isCl h c F) : Call γ mX11_hashTree 2 0 0 [vr (some c), vl z] h (rV (vl (hTr F.1.1 (mx9 z (tn F.1.1 : Int)))) h) := by
  have L := l_ht21 (γ := γ) (z0 := z) (z := mx9 z (tn F.1.1 : Int)) hC (tn F.1.1) 0 (Nat.zero_add _)
  rw [itr9_0] at L
  obtain ⟨S, U, tx⟩ := F
  obtain ⟨T, qs⟩ := S
  obtain ⟨hkc, r0, r1, r2, r3, r4, r5, r6, r7, r8, hks, s0, s1, hkq, hkt⟩ := cl_f hC
  have hT : isTr h (c + 1 + 1) T := hC.2.1.2.1
  have oT : okTr T := hC.2.2.2.2.2.1.1
  have n40 := oT.o.2.1
  have gt0 : gi h (c + 1 + 1) 0 = (tn T : Int) := hT.2.1
  refine Call.of (ls := [(0, vr (some c)), (1, vl z)]) vX11_hashTree.1 (Nat.le_of_ble_eq_true rfl) rfl ?_
  refine aw_ldc2 dX11_hashTree_0 qX11_241 ?_
  refine aw_lload_n dX11_hashTree_3 rfl ?_
  refine aw_lmul dX11_hashTree_4 ?_
  refine aw_aload_n dX11_hashTree_5 rfl ?_
  refine aw_getr' (j := 0) dX11_hashTree_6 fX11_12 rfl (by assumption) rfl (by assumption) ?_
  refine aw_getr' (j := 0) dX11_hashTree_9 fX11_73 rfl (by assumption) rfl (by assumption) ?_
  refine aw_geti' (j := 0) dX11_hashTree_12 fX11_77 rfl (by assumption) rfl gt0 ?_
  refine aw_i2l dX11_hashTree_15 rfl ?_
  refine aw_ladd dX11_hashTree_16 ?_
  refine aw_lstore_n (ls1 := [(3, _), (0, _), (1, _)]) dX11_hashTree_17 (by decide) rfl ?_
  refine aw_iconst dX11_hashTree_18 ?_
  refine aw_istore (ls1 := [(5, _), (3, _), (0, _), (1, _)]) dX11_hashTree_19 (by decide) rfl ?_
  refine aw_sub [0, 1, 2, 3] rfl ?_
  exact L
theorem l_hw6 {γ : GG} {h : AH} {c b : Nat} {z z0 : Int64} {π : Nat → Nat} {ρ : Nat → Nat → Nat} {q : TQ} {F : FS} {Q : AR → AH → Prop} (hQ : isQ h b π ρ q) (ho : okQ q) (hw : lnQ q) (hb : b + 74 ≤ c + 1545) (kk : ∀ H, isCl H c F → eqO h H (c + 1545) (c + 1545 + 2) → AW γ mX11_hashWriting 9 0 0 36 [(4, vl (hSz q z)), (0, vr (some c)), (1, vl z0), (3, vr (some b))] [] H Q) : ∀ (m k : Nat) (H : AH), k + m = 6 → isCl H c F → eqO h H (c + 1545) (c + 1545 + 2) → AW γ mX11_hashWriting 9 0 0 6 [(6, vi (k : Int)), (4, vl (itr9 (fun k z => mx9 z (sizV q (k : Int))) k z)), (0, vr (some c)), (1, vl z0), (3, vr (some b))] [] H Q := by
  intro m
  induction m with
  | zero =>
    intro k H hk hD hE
    obtain rfl : k = 6 := by omega
    rw [hSz_e]
    have K := kk H hD hE
    refine aw_iload dX11_hashWriting_6 rfl ?_
    refine aw_bipush dX11_hashWriting_8 rfl ?_
    refine aw_ic_ge (tgt := 36) dX11_hashWriting_10 rfl (by omega) (by omega) (fun c10 => ?_) (fun c10 => ?_)
    · refine aw_sub [1, 2, 3, 4] rfl ?_
      exact K
    · exact absurd c10 (by omega)
  | succ m ih =>
    intro k H hk hD hE
    have hkc := (cl_f hD).1
    have r3 := (cl_f hD).2.2.2.2.1
    have hQ1 := hQ.eq (fun x x1 x2 => hE.2 x (by omega))
    have hkb := hQ1.1.1
    have KM := c_meas (γ := γ) (x := k) hD hQ1 ho hw (by omega) (by omega)
    have I := fun H1 d1 e1 => ih (k + 1) H1 (by omega) d1 e1
    refine aw_iload dX11_hashWriting_6 rfl ?_
    refine aw_bipush dX11_hashWriting_8 rfl ?_
    refine aw_ic_ge (tgt := 36) dX11_hashWriting_10 rfl (by omega) (by omega) (fun c10 => ?_) (fun c10 => ?_)
    · exact absurd c10 (by omega)
    · refine aw_ldc2 dX11_hashWriting_13 qX11_241 ?_
      refine aw_lload dX11_hashWriting_16 rfl ?_
      refine aw_lmul dX11_hashWriting_18 ?_
      refine aw_aload_n dX11_hashWriting_19 rfl ?_
      refine aw_aload_n dX11_hashWriting_20 rfl ?_
      refine aw_iload dX11_hashWriting_21 rfl ?_
      refine aw_invV_e dX11_hashWriting_23 vX11_measure kX11_185 rfl (KM) ⟨_, (by assumption), _, _, rfl⟩ rfl rfl (by decide) (by decide) (by decide) (Nat.le_of_ble_eq_true rfl) (fun H1 hP9 => ?_)
      obtain ⟨D1, E1⟩ := hP9
      refine aw_i2l dX11_hashWriting_26 rfl ?_
      refine aw_ladd dX11_hashWriting_27 ?_
      refine aw_lstore (ls1 := [(4, _), (6, _), (0, _), (1, _), (3, _)]) dX11_hashWriting_28 (by decide) rfl ?_
      refine aw_iinc (k9 := 1) (ls1 := [(6, _), (4, _), (0, _), (1, _), (3, _)]) dX11_hashWriting_30 rfl (by decide) rfl ?_
      refine aw_goto (tgt := 6) dX11_hashWriting_33 rfl ?_
      refine aw_sub [0, 1, 2, 3, 4] rfl ?_
      exact I H1 D1 (hE.tr E1)
theorem l_hw47 {γ : GG} {h : AH} {c b : Nat} {z z0 : Int64} {q : TQ} {F : FS} {Q : AR → AH → Prop} (hC : isCl h c F) (ho : okQ q) (hw : lnQ q) (g1 : gi h (c + 1545) 1 = (wQry q).length) (g2 : ∀ (k : Nat) (x : Int), (wQry q)[k]? = some x → gi h (c + 1545 + 1) k = x) (kk : Q (.inl (some (vl (hWr q z)))) h) : ∀ (m k : Nat), k + m = (wQry q).length → AW γ mX11_hashWriting 9 0 0 47 [(6, vi (k : Int)), (4, vl (itr9 (fun k z => mx9 z ((wQry q).getD k 0)) k z)), (0, vr (some c)), (1, vl z0), (3, vr (some b))] [] h Q := by
  have hkc := (cl_f hC).1
  have r3 := (cl_f hC).2.2.2.2.1
  have hW := hC.2.2.2.2.1.1
  have hkw := hW.1
  have bw := wQry_le ho hw
  intro m
  induction m with
  | zero =>
    intro k hk
    obtain rfl : k = (wQry q).length := by omega
    rw [hWr_e]
    refine aw_iload dX11_hashWriting_47 rfl ?_
    refine aw_aload_n dX11_hashWriting_49 rfl ?_
    refine aw_getr' (j := 3) dX11_hashWriting_50 fX11_32 rfl (by assumption) rfl (by assumption) ?_
    refine aw_geti' (j := 1) dX11_hashWriting_53 fX11_150 rfl (by assumption) rfl g1 ?_
    refine aw_ic_ge (tgt := 84) dX11_hashWriting_56 rfl (by omega) (by omega) (fun c56 => ?_) (fun c56 => ?_)
    · refine aw_lload dX11_hashWriting_84 rfl ?_
      exact aw_lreturn dX11_hashWriting_86 rfl (Or.inl rfl) kk
    · exact absurd c56 (by omega)
  | succ m ih =>
    intro k hk
    have I := ih (k + 1) (by omega)
    rw [itr9_s] at I
    obtain ⟨x, hx⟩ : ∃ x, (wQry q)[k]? = some x := ⟨_, List.getElem?_eq_getElem (by omega)⟩
    have ec : (wQry q).getD k 0 = x := by rw [List.getD_eq_getElem?_getD, hx]; rfl
    rw [ec] at I
    have KA := c_at (γ := γ) (j := (k : Int)) hW (by decide) (by omega)
    rw [if_pos (by omega), g2 k x hx] at KA
    refine aw_iload dX11_hashWriting_47 rfl ?_
    refine aw_aload_n dX11_hashWriting_49 rfl ?_
    refine aw_getr' (j := 3) dX11_hashWriting_50 fX11_32 rfl (by assumption) rfl (by assumption) ?_
    refine aw_geti' (j := 1) dX11_hashWriting_53 fX11_150 rfl (by assumption) rfl g1 ?_
    refine aw_ic_ge (tgt := 84) dX11_hashWriting_56 rfl (by omega) (by omega) (fun c56 => ?_) (fun c56 => ?_)
    · exact absurd c56 (by omega)
    · refine aw_ldc2 dX11_hashWriting_59 qX11_241 ?_
      refine aw_lload dX11_hashWriting_62 rfl ?_
      refine aw_lmul dX11_hashWriting_64 ?_
      refine aw_aload_n dX11_hashWriting_65 rfl ?_
      refine aw_getr' (j := 3) dX11_hashWriting_66 fX11_32 rfl (by assumption) rfl (by assumption) ?_
      refine aw_iload dX11_hashWriting_69 rfl ?_
      refine aw_invV_r dX11_hashWriting_71 vX9_at kX11_182 rfl (KA) ⟨_, (by assumption), _, _, rfl⟩ rfl rfl (by decide) (by decide) (by decide) (Nat.le_of_ble_eq_true rfl) ?_
      refine aw_i2l dX11_hashWriting_74 rfl ?_
      refine aw_ladd dX11_hashWriting_75 ?_
      refine aw_lstore (ls1 := [(4, _), (6, _), (0, _), (1, _), (3, _)]) dX11_hashWriting_76 (by decide) rfl ?_
      refine aw_iinc (k9 := 1) (ls1 := [(6, _), (4, _), (0, _), (1, _), (3, _)]) dX11_hashWriting_78 rfl (by decide) rfl ?_
      refine aw_goto (tgt := 47) dX11_hashWriting_81 rfl ?_
      refine aw_sub [0, 1, 2, 3, 4] rfl ?_
      exact I
theorem c_hWrite {γ : GG} {h : AH} {c b : Nat} {z : Int64} {π : Nat → Nat} {ρ : Nat → Nat → Nat} {q : TQ} {F : FS} (hC : isCl h c F) (hQ : isQ h b π ρ q) (ho : okQ q) (hw : lnQ q) (hb : b + 74 ≤ c + 1545) : Call γ mX11_hashWriting 9 0 0 [vr (some c), vl z, vr (some b)] h (rE (vl (hWr q (hSz q z))) (fun h' => isCl h' c F ∧ eqO h h' (c + 1545) (c + 1545 + 2))) := by
  have L := l_hw6 (γ := γ) (z := z) (z0 := z) (F := F) (Q := rE (vl (hWr q (hSz q z))) (fun h' => isCl h' c F ∧ eqO h h' (c + 1545) (c + 1545 + 2))) hQ ho hw hb (fun H hD hE => by
    have hkc := (cl_f hD).1
    have r3 := (cl_f hD).2.2.2.2.1
    have hQ1 := hQ.eq (fun x x1 x2 => hE.2 x (by omega))
    have hkb := hQ1.1.1
    have C1 := wrH_cl (q := q) hD
    have E1 := wrH_e c H q
    generalize hz : hSz q z = Z
    have L2 := l_hw47 (γ := γ) (b := b) (z := Z) (z0 := z) (Q := rE (vl (hWr q Z)) (fun h' => isCl h' c F ∧ eqO h h' (c + 1545) (c + 1545 + 2))) C1 ho hw (wrH_n c H q) (fun k x hk => wrH_at hk) ⟨rfl, C1, hE.tr E1⟩ (wQry q).length 0 (Nat.zero_add _)
    rw [itr9_0] at L2
    refine aw_aload_n dX11_hashWriting_36 rfl ?_
    refine aw_aload_n dX11_hashWriting_37 rfl ?_
    refine aw_getr' (j := 3) dX11_hashWriting_38 fX11_32 rfl (by assumption) rfl (by assumption) ?_
    refine aw_invV_n dX11_hashWriting_41 vX5_writeTo kX11_178 rfl (c_wr (γ := γ) hD hQ1 ho hw (by omega)) ⟨_, (by assumption), _, _, rfl⟩ rfl rfl (by decide) (by decide) (by decide) (Nat.le_of_ble_eq_true rfl) ?_
    refine aw_iconst dX11_hashWriting_44 ?_
    refine aw_istore (ls1 := [(6, _), (4, _), (0, _), (1, _), (3, _)]) dX11_hashWriting_45 (by decide) rfl ?_
    refine aw_sub [0, 1, 2, 3, 4] rfl ?_
    exact L2) 6 0 h rfl hC eqO.rf
  rw [itr9_0] at L
  refine Call.of (ls := [(0, vr (some c)), (1, vl z), (3, vr (some b))]) vX11_hashWriting.1 (Nat.le_of_ble_eq_true rfl) rfl ?_
  refine aw_lload_n dX11_hashWriting_0 rfl ?_
  refine aw_lstore (ls1 := [(4, _), (0, _), (1, _), (3, _)]) dX11_hashWriting_1 (by decide) rfl ?_
  refine aw_iconst dX11_hashWriting_3 ?_
  refine aw_istore (ls1 := [(6, _), (4, _), (0, _), (1, _), (3, _)]) dX11_hashWriting_4 (by decide) rfl ?_
  refine aw_sub [0, 1, 2, 3, 4] rfl ?_
  exact L
theorem l_hs21 {γ : GG} {h : AH} {c b : Nat} {z z0 : Int64} {π : Nat → Nat} {ρ : Nat → Nat → Nat} {q : TQ} {F : FS} {Q : AR → AH → Prop} (hC : isCl h c F) (hQ : isQ h b π ρ q) (ho : okQ q) (hg : gfD h (c + 1698) F.1.1 q q.length 0) (kk : Q (.inl (some (vl (hSe F.1.1 q z)))) h) : ∀ (m k : Nat), k + m = tn F.1.1 → AW γ mX11_hashSelection 6 0 0 21 [(6, vi (k : Int)), (4, vl (itr9 (fun c z => mx9 (mx9 z ((fb_ct (selF F.1.1 q c) 40 : Nat) : Int)) (sumT F.1.1 (selF F.1.1 q c) (tn F.1.1))) k z)), (0, vr (some c)), (1, vl z0), (3, vr (some b))] [] h Q := by
  have hE : shE h (c + 1698) := hC.2.2.2.2.1.2.2.2.2.1
  have hke := hE.1
  obtain ⟨S, U, tx⟩ := F
  obtain ⟨T, qs⟩ := S
  obtain ⟨hkc, r0, r1, r2, r3, r4, r5, r6, r7, r8, hks, s0, s1, hkq, hkt⟩ := cl_f hC
  have hT : isTr h (c + 1 + 1) T := hC.2.1.2.1
  have oT : okTr T := hC.2.2.2.2.2.1.1
  have n40 := oT.o.2.1
  have gt0 : gi h (c + 1 + 1) 0 = (tn T : Int) := hT.2.1
  have hkb := hQ.1.1
  intro m
  induction m with
  | zero =>
    intro k hk
    have hk : k = tn T := hk
    subst hk
    rw [hSe_e]
    refine aw_iload dX11_hashSelection_21 rfl ?_
    refine aw_aload_n dX11_hashSelection_23 rfl ?_
    refine aw_getr' (j := 0) dX11_hashSelection_24 fX11_12 rfl (by assumption) rfl (by assumption) ?_
    refine aw_getr' (j := 0) dX11_hashSelection_27 fX11_73 rfl (by assumption) rfl (by assumption) ?_
    refine aw_geti' (j := 0) dX11_hashSelection_30 fX11_77 rfl (by assumption) rfl gt0 ?_
    refine aw_ic_ge (tgt := 91) dX11_hashSelection_33 rfl (by omega) (by omega) (fun c33 => ?_) (fun c33 => ?_)
    · refine aw_lload dX11_hashSelection_91 rfl ?_
      exact aw_lreturn dX11_hashSelection_93 rfl (Or.inl rfl) kk
    · exact absurd c33 (by omega)
  | succ m ih =>
    intro k hk
    have hk : k + (m + 1) = tn T := hk
    have I := ih (k + 1) (by show k + 1 + m = tn T; omega)
    rw [itr9_s] at I
    have KS : Call γ mX1_selectFrom 3 0 0 [vr (some (c + 1698)), vr (some b), vi (k : Int)] h (rV (vl (S9 (selF T q k))) h) := c_selectFrom (γ := γ) (v := k) hE hQ ho n40 hg (show k < tn T by omega)
    refine aw_iload dX11_hashSelection_21 rfl ?_
    refine aw_aload_n dX11_hashSelection_23 rfl ?_
    refine aw_getr' (j := 0) dX11_hashSelection_24 fX11_12 rfl (by assumption) rfl (by assumption) ?_
    refine aw_getr' (j := 0) dX11_hashSelection_27 fX11_73 rfl (by assumption) rfl (by assumption) ?_
    refine aw_geti' (j := 0) dX11_hashSelection_30 fX11_77 rfl (by assumption) rfl gt0 ?_
    refine aw_ic_ge (tgt := 91) dX11_hashSelection_33 rfl (by omega) (by omega) (fun c33 => ?_) (fun c33 => ?_)
    · exact absurd c33 (by omega)
    · refine aw_aload_n dX11_hashSelection_36 rfl ?_
      refine aw_getr' (j := 7) dX11_hashSelection_37 fX11_59 rfl (by assumption) rfl (by assumption) ?_
      refine aw_aload_n dX11_hashSelection_40 rfl ?_
      refine aw_iload dX11_hashSelection_41 rfl ?_
      refine aw_invV_r dX11_hashSelection_43 vX1_selectFrom kX11_214 rfl (KS) ⟨_, (by assumption), _, _, rfl⟩ rfl rfl (by decide) (by decide) (by decide) (Nat.le_of_ble_eq_true rfl) ?_
      refine aw_lstore (ls1 := [(7, _), (6, _), (4, _), (0, _), (1, _), (3, _)]) dX11_hashSelection_46 (by decide) rfl ?_
      refine aw_ldc2 dX11_hashSelection_48 qX11_241 ?_
      refine aw_lload dX11_hashSelection_51 rfl ?_
      refine aw_lmul dX11_hashSelection_53 ?_
      refine aw_lload dX11_hashSelection_54 rfl ?_
      refine aw_invS_r dX11_hashSelection_56 sJ13_bitCount_95d88 kX11_133 rfl (c_bcS (γ := γ) (selF T q k)) rfl rfl (by decide) (by decide) (by decide) (Nat.le_of_ble_eq_true rfl) ?_
      refine aw_i2l dX11_hashSelection_59 rfl ?_
      refine aw_ladd dX11_hashSelection_60 ?_
      refine aw_lstore (ls1 := [(4, _), (7, _), (6, _), (0, _), (1, _), (3, _)]) dX11_hashSelection_61 (by decide) rfl ?_
      refine aw_ldc2 dX11_hashSelection_63 qX11_241 ?_
      refine aw_lload dX11_hashSelection_66 rfl ?_
      refine aw_lmul dX11_hashSelection_68 ?_
      refine aw_aload_n dX11_hashSelection_69 rfl ?_
      refine aw_getr' (j := 0) dX11_hashSelection_70 fX11_12 rfl (by assumption) rfl (by assumption) ?_
      refine aw_getr' (j := 0) dX11_hashSelection_73 fX11_73 rfl (by assumption) rfl (by assumption) ?_
      refine aw_lload dX11_hashSelection_76 rfl ?_
      refine aw_invV_r dX11_hashSelection_78 vX10_totalOf kX11_196 rfl (c_totalOf (γ := γ) hT oT) ⟨_, (by assumption), _, _, rfl⟩ rfl rfl (by decide) (by decide) (by decide) (Nat.le_of_ble_eq_true rfl) ?_
      refine aw_i2l dX11_hashSelection_81 rfl ?_
      refine aw_ladd dX11_hashSelection_82 ?_
      refine aw_lstore (ls1 := [(4, _), (7, _), (6, _), (0, _), (1, _), (3, _)]) dX11_hashSelection_83 (by decide) rfl ?_
      refine aw_iinc (k9 := 2) (ls1 := [(6, _), (4, _), (7, _), (0, _), (1, _), (3, _)]) dX11_hashSelection_85 rfl (by decide) rfl ?_
      refine aw_goto (tgt := 21) dX11_hashSelection_88 rfl ?_
      refine aw_sub [0, 1, 3, 4, 5] rfl ?_
      exact I
theorem c_hSelect {γ : GG} {h : AH} {c b : Nat} {z : Int64} {π : Nat → Nat} {ρ : Nat → Nat → Nat} {q : TQ} {F : FS} (hC : isCl h c F) (hQ : isQ h b π ρ q) (ho : okQ q) (hb : b + 74 ≤ c + 1698) : Call γ mX11_hashSelection 6 0 0 [vr (some c), vl z, vr (some b)] h (rE (vl (hSe F.1.1 q z)) (fun h' => isCl h' c F ∧ eqT (EV (c + 1698)) h h')) := by
  have hE : shE h (c + 1698) := hC.2.2.2.2.1.2.2.2.2.1
  have hke := hE.1
  have hkb := hQ.1.1
  have hC0 := hC
  have KP := c_prepare (γ := γ) (t := c + 1 + 1) hE hC.2.1.2.1 hC.2.2.2.2.2.1.1 hQ ho (by omega) (by omega)
  have L := fun H1 (E1 : eqT (EV (c + 1698)) h H1) (G1 : gfD H1 (c + 1698) F.1.1 q q.length 0) => l_hs21 (γ := γ) (z := z) (z0 := z) (Q := rE (vl (hSe F.1.1 q z)) (fun h' => isCl h' c F ∧ eqT (EV (c + 1698)) h h')) (hC.ev (Or.inl rfl) E1) (hQ.eq (fun x x1 x2 => E1.eqA (fun z => by unfold EV at z; omega))) ho G1 ⟨rfl, hC.ev (Or.inl rfl) E1, E1⟩ (tn F.1.1) 0 (Nat.zero_add _)
  obtain ⟨S, U, tx⟩ := F
  obtain ⟨T, qs⟩ := S
  obtain ⟨hkc, r0, r1, r2, r3, r4, r5, r6, r7, r8, hks, s0, s1, hkq, hkt⟩ := cl_f hC
  have hT : isTr h (c + 1 + 1) T := hC.2.1.2.1
  have oT : okTr T := hC.2.2.2.2.2.1.1
  have n40 := oT.o.2.1
  have gt0 : gi h (c + 1 + 1) 0 = (tn T : Int) := hT.2.1
  refine Call.of (ls := [(0, vr (some c)), (1, vl z), (3, vr (some b))]) vX11_hashSelection.1 (Nat.le_of_ble_eq_true rfl) rfl ?_
  refine aw_lload_n dX11_hashSelection_0 rfl ?_
  refine aw_lstore (ls1 := [(4, _), (0, _), (1, _), (3, _)]) dX11_hashSelection_1 (by decide) rfl ?_
  refine aw_aload_n dX11_hashSelection_3 rfl ?_
  refine aw_getr' (j := 7) dX11_hashSelection_4 fX11_59 rfl (by assumption) rfl (by assumption) ?_
  refine aw_aload_n dX11_hashSelection_7 rfl ?_
  refine aw_getr' (j := 0) dX11_hashSelection_8 fX11_12 rfl (by assumption) rfl (by assumption) ?_
  refine aw_getr' (j := 0) dX11_hashSelection_11 fX11_73 rfl (by assumption) rfl (by assumption) ?_
  refine aw_aload_n dX11_hashSelection_14 rfl ?_
  refine aw_invV_f dX11_hashSelection_15 vX1_prepare kX11_206 rfl (KP) ⟨_, (by assumption), _, _, rfl⟩ rfl rfl (by decide) (by decide) (by decide) (Nat.le_of_ble_eq_true rfl) (fun H1 hP9 => ?_)
  obtain ⟨E1, G1⟩ := hP9
  have L1 := L H1 E1 G1
  rw [itr9_0] at L1
  refine aw_iconst dX11_hashSelection_18 ?_
  refine aw_istore (ls1 := [(6, _), (4, _), (0, _), (1, _), (3, _)]) dX11_hashSelection_19 (by decide) rfl ?_
  refine aw_sub [0, 1, 2, 3, 4] rfl ?_
  exact L1
theorem l_hu25 {γ : GG} {h : AH} {c b : Nat} {z z0 : Int64} {q : TQ} {F : FS} {Q : AR → AH → Prop} (hC : isCl h c F) (hU : isU h (c + 1696) (rwQ q).2) (kk : Q (.inl (some (vl (hUs q z)))) h) : ∀ (m k : Nat), k + m = 9 → AW γ mX11_hashUses 7 0 0 25 [(6, vi ((k + 1 : Nat) : Int)), (4, vl (itr9 (fun r z => mx9 z ((rwQ q).2 (r + 1))) k z)), (0, vr (some c)), (1, vl z0), (3, vr (some b))] [] h Q := by
  have hku := hU.1
  have ru := hU.2.1
  have ku := hU.2.2.1
  obtain ⟨S, U, tx⟩ := F
  obtain ⟨T, qs⟩ := S
  obtain ⟨hkc, r0, r1, r2, r3, r4, r5, r6, r7, r8, hks, s0, s1, hkq, hkt⟩ := cl_f hC
  have hT : isTr h (c + 1 + 1) T := hC.2.1.2.1
  have oT : okTr T := hC.2.2.2.2.2.1.1
  have n40 := oT.o.2.1
  have gt0 : gi h (c + 1 + 1) 0 = (tn T : Int) := hT.2.1
  intro m
  induction m with
  | zero =>
    intro k hk
    obtain rfl : k = 9 := by omega
    rw [hUs_e]
    refine aw_iload dX11_hashUses_25 rfl ?_
    refine aw_bipush dX11_hashUses_27 rfl ?_
    refine aw_ic_gt (tgt := 58) dX11_hashUses_29 rfl (by omega) (by omega) (fun c29 => ?_) (fun c29 => ?_)
    · refine aw_lload dX11_hashUses_58 rfl ?_
      exact aw_lreturn dX11_hashUses_60 rfl (Or.inl rfl) kk
    · exact absurd c29 (by omega)
  | succ m ih =>
    intro k hk
    have I := ih (k + 1) (by omega)
    rw [itr9_s] at I
    have gu := hU.2.2.2 (k + 1) (by omega) (by omega)
    refine aw_iload dX11_hashUses_25 rfl ?_
    refine aw_bipush dX11_hashUses_27 rfl ?_
    refine aw_ic_gt (tgt := 58) dX11_hashUses_29 rfl (by omega) (by omega) (fun c29 => ?_) (fun c29 => ?_)
    · exact absurd c29 (by omega)
    · refine aw_ldc2 dX11_hashUses_32 qX11_241 ?_
      refine aw_lload dX11_hashUses_35 rfl ?_
      refine aw_lmul dX11_hashUses_37 ?_
      refine aw_aload_n dX11_hashUses_38 rfl ?_
      refine aw_getr' (j := 6) dX11_hashUses_39 fX11_52 rfl (by assumption) rfl (by assumption) ?_
      refine aw_getr' (j := 0) dX11_hashUses_42 fX11_230 rfl (by assumption) rfl (by assumption) ?_
      refine aw_iload dX11_hashUses_45 rfl ?_
      refine aw_iald' dX11_hashUses_47 (by assumption) (by omega) (by first | decide | omega) gu ?_
      refine aw_i2l dX11_hashUses_48 rfl ?_
      refine aw_ladd dX11_hashUses_49 ?_
      refine aw_lstore (ls1 := [(4, _), (6, _), (0, _), (1, _), (3, _)]) dX11_hashUses_50 (by decide) rfl ?_
      refine aw_iinc (k9 := 1) (ls1 := [(6, _), (4, _), (0, _), (1, _), (3, _)]) dX11_hashUses_52 rfl (by decide) rfl ?_
      refine aw_goto (tgt := 25) dX11_hashUses_55 rfl ?_
      refine aw_sub [0, 1, 2, 3, 4] rfl ?_
      exact I
theorem c_hUses {γ : GG} {h : AH} {c b : Nat} {z : Int64} {π : Nat → Nat} {ρ : Nat → Nat → Nat} {q : TQ} {F : FS} (hC : isCl h c F) (hQ : isQ h b π ρ q) (ho : okQ q) (h1 : 1 ≤ q.length) (hb : b + 74 ≤ c + 1547) : Call γ mX11_hashUses 7 0 0 [vr (some c), vl z, vr (some b)] h (rE (vl (hUs q z)) (fun h' => isCl h' c F ∧ eqO h h' (c + 1547) (c + 1704))) := by
  obtain ⟨πd, ρd, hD⟩ := hC.2.2.2.2.1.2.1
  have hkd := hD.1
  have hC0 := hC
  obtain ⟨S, U, tx⟩ := F
  obtain ⟨T, qs⟩ := S
  obtain ⟨hkc, r0, r1, r2, r3, r4, r5, r6, r7, r8, hks, s0, s1, hkq, hkt⟩ := cl_f hC
  have hT : isTr h (c + 1 + 1) T := hC.2.1.2.1
  have oT : okTr T := hC.2.2.2.2.2.1.1
  have n40 := oT.o.2.1
  have gt0 : gi h (c + 1 + 1) 0 = (tn T : Int) := hT.2.1
  refine Call.of (ls := [(0, vr (some c)), (1, vl z), (3, vr (some b))]) vX11_hashUses.1 (Nat.le_of_ble_eq_true rfl) rfl ?_
  refine aw_lload_n dX11_hashUses_0 rfl ?_
  refine aw_lstore (ls1 := [(4, _), (0, _), (1, _), (3, _)]) dX11_hashUses_1 (by decide) rfl ?_
  refine aw_aload_n dX11_hashUses_3 rfl ?_
  refine aw_getr' (j := 4) dX11_hashUses_4 fX11_38 rfl (by assumption) rfl (by assumption) ?_
  refine aw_aload_n dX11_hashUses_7 rfl ?_
  refine aw_invV_f dX11_hashUses_8 vX5_copyFrom kX11_170 rfl (c_qcopy (γ := γ) hD hQ (by omega)) ⟨_, (by assumption), _, _, rfl⟩ rfl rfl (by decide) (by decide) (by decide) (Nat.le_of_ble_eq_true rfl) (fun H1 hP9 => ?_)
  obtain ⟨D1, E1⟩ := hP9
  have C1 : isCl H1 c ((T, qs), U, tx) := hC0.wk (fun b b1 b2 => E1.2 b (by omega)) (hC0.2.2.2.2.1.dr E1 ⟨_, _, D1.1⟩)
  obtain ⟨hkc', r0', r1', r2', r3', r4', r5', r6', r7', r8', hks', s0', s1', hkq', hkt'⟩ := cl_f C1
  have hU := C1.2.2.2.2.1.2.2.2.1
  have hku := hU.1
  have KR := c_run (γ := γ) (by omega) hU.U D1 ho h1
  refine aw_aload_n dX11_hashUses_11 rfl ?_
  refine aw_getr' (j := 6) dX11_hashUses_12 fX11_52 rfl (by assumption) rfl (by assumption) ?_
  refine aw_aload_n dX11_hashUses_15 rfl ?_
  refine aw_getr' (j := 4) dX11_hashUses_16 fX11_38 rfl (by assumption) rfl (by assumption) ?_
  refine aw_invV_f dX11_hashUses_19 vX6_run kX11_218 rfl (KR) ⟨_, (by assumption), _, _, rfl⟩ rfl rfl (by decide) (by decide) (by decide) (Nat.le_of_ble_eq_true rfl) (fun H2 hP9 => ?_)
  obtain ⟨π', ρ', U2, Q2, O2, E2⟩ := hP9
  have C2 : isCl H2 c ((T, qs), U, tx) := C1.wk (fun b b1 b2 => E2.2 b (by omega) (by omega)) (C1.2.2.2.2.1.du E2 ⟨_, _, Q2.1⟩ U2.s)
  have EE : eqO h H2 (c + 1547) (c + 1704) := (E1.mono (by omega) (by omega)).tr ⟨E2.1, fun x hx => E2.2 x (by omega) (by omega)⟩
  have L := l_hu25 (γ := γ) (b := b) (z := z) (z0 := z) (q := q) (Q := rE (vl (hUs q z)) (fun h' => isCl h' c ((T, qs), U, tx) ∧ eqO h h' (c + 1547) (c + 1704))) C2 U2 ⟨rfl, C2, EE⟩ 9 0 rfl
  rw [itr9_0] at L
  refine aw_iconst dX11_hashUses_22 ?_
  refine aw_istore (ls1 := [(6, _), (4, _), (0, _), (1, _), (3, _)]) dX11_hashUses_23 (by decide) rfl ?_
  refine aw_sub [0, 1, 2, 3, 4] rfl ?_
  exact L
theorem l_cd42 {γ : GG} {h : AH} {c : Nat} {z : Int64} {F : FS} (hz : dgS F = itr9 (hPp F.1.1 F.1.2) 4 z) : ∀ (m p : Nat) (H : AH), p + m = 4 → isCl H c F → eqO h H c (c + 1704) → AW γ mX11_digest 10 0 0 42 [(3, vi (p : Int)), (1, vl (itr9 (hPp F.1.1 F.1.2) p z)), (0, vr (some c))] [] H (rE (vl (dgS F)) (fun h' => isCl h' c F ∧ eqO h h' c (c + 1704))) := by
  intro m
  induction m with
  | zero =>
    intro p H hk hD hE
    obtain rfl : p = 4 := by omega
    rw [← hz]
    have hkc := (cl_f hD).1
    refine aw_iload_n dX11_digest_42 rfl ?_
    refine aw_iconst dX11_digest_43 ?_
    refine aw_ic_ge (tgt := 141) dX11_digest_44 rfl (by omega) (by omega) (fun c44 => ?_) (fun c44 => ?_)
    · refine aw_lload_n dX11_digest_141 rfl ?_
      exact aw_lreturn dX11_digest_142 rfl (Or.inl rfl) ⟨rfl, hD, hE⟩
    · exact absurd c44 (by omega)
  | succ m ih =>
    intro p H hk hD hE
    have I := fun H1 d1 e1 => ih (p + 1) H1 (by omega) d1 e1
    rw [itr9_s] at I
    generalize itr9 (hPp F.1.1 F.1.2) p z = Y at I
    have hp : p < 4 := by omega
    obtain ⟨hkc, r0, r1, r2, r3, r4, r5, r6, r7, r8, hks, s0, s1, hkq, hkt⟩ := cl_f hD
    obtain ⟨rq, π, ρ, hQ⟩ := cl_q hD hp
    have oq := hD.2.2.2.2.2.1.2 p hp
    have l4 := oq.1.1
    have hkb := hQ.1.1
    have gl := hQ.2.1
    by_cases d3 : F.1.2 p = []
    · have lq : (F.1.2 p).length = 0 := by rw [d3]; rfl
      rw [hPp_e d3] at I
      have I := I H hD hE
      refine aw_iload_n dX11_digest_42 rfl ?_
      refine aw_iconst dX11_digest_43 ?_
      refine aw_ic_ge (tgt := 141) dX11_digest_44 rfl (by omega) (by omega) (fun c44 => ?_) (fun c44 => ?_)
      · exact absurd c44 (by omega)
      · refine aw_ldc2 dX11_digest_47 qX11_241 ?_
        refine aw_lload_n dX11_digest_50 rfl ?_
        refine aw_lmul dX11_digest_51 ?_
        refine aw_aload_n dX11_digest_52 rfl ?_
        refine aw_getr' (j := 0) dX11_digest_53 fX11_12 rfl (by assumption) rfl (by assumption) ?_
        refine aw_getr' (j := 1) dX11_digest_56 fX11_163 rfl (by assumption) rfl (by assumption) ?_
        refine aw_iload_n dX11_digest_59 rfl ?_
        refine aw_aald5' dX11_digest_60 (by assumption) (by omega) (by first | decide | omega) rq ?_
        refine aw_geti' (j := 0) dX11_digest_61 fX11_174 rfl (by assumption) rfl gl ?_
        refine aw_if_le (tgt := 71) dX11_digest_64 rfl (by omega) (fun c64 => ?_) (fun c64 => ?_)
        · refine aw_iconst dX11_digest_71 ?_
          refine aw_i2l dX11_digest_72 rfl ?_
          refine aw_ladd dX11_digest_73 ?_
          refine aw_lstore_n (ls1 := [(1, _), (3, _), (0, _)]) dX11_digest_74 (by decide) rfl ?_
          refine aw_aload_n dX11_digest_75 rfl ?_
          refine aw_getr' (j := 0) dX11_digest_76 fX11_12 rfl (by assumption) rfl (by assumption) ?_
          refine aw_getr' (j := 1) dX11_digest_79 fX11_163 rfl (by assumption) rfl (by assumption) ?_
          refine aw_iload_n dX11_digest_82 rfl ?_
          refine aw_aald5' dX11_digest_83 (by assumption) (by omega) (by first | decide | omega) rq ?_
          refine aw_geti' (j := 0) dX11_digest_84 fX11_174 rfl (by assumption) rfl gl ?_
          refine aw_if_le (tgt := 135) dX11_digest_87 rfl (by omega) (fun c87 => ?_) (fun c87 => ?_)
          · refine aw_iinc (k9 := 1) (ls1 := [(3, _), (1, _), (0, _)]) dX11_digest_135 rfl (by decide) rfl ?_
            refine aw_goto (tgt := 42) dX11_digest_138 rfl ?_
            refine aw_sub [0, 1, 2] rfl ?_
            exact I
          · exact absurd c87 (by omega)
        · exact absurd c64 (by omega)
    · have lq : 1 ≤ (F.1.2 p).length := one_le d3
      rw [hPp_n d3] at I
      unfold hPl at I
      have K1 := c_hWrite (γ := γ) (z := mx9 Y 1) hD hQ oq.1 oq.2 (by omega)
      generalize hWr (F.1.2 p) (hSz (F.1.2 p) (mx9 Y 1)) = Z1 at I K1
      refine aw_iload_n dX11_digest_42 rfl ?_
      refine aw_iconst dX11_digest_43 ?_
      refine aw_ic_ge (tgt := 141) dX11_digest_44 rfl (by omega) (by omega) (fun c44 => ?_) (fun c44 => ?_)
      · exact absurd c44 (by omega)
      · refine aw_ldc2 dX11_digest_47 qX11_241 ?_
        refine aw_lload_n dX11_digest_50 rfl ?_
        refine aw_lmul dX11_digest_51 ?_
        refine aw_aload_n dX11_digest_52 rfl ?_
        refine aw_getr' (j := 0) dX11_digest_53 fX11_12 rfl (by assumption) rfl (by assumption) ?_
        refine aw_getr' (j := 1) dX11_digest_56 fX11_163 rfl (by assumption) rfl (by assumption) ?_
        refine aw_iload_n dX11_digest_59 rfl ?_
        refine aw_aald5' dX11_digest_60 (by assumption) (by omega) (by first | decide | omega) rq ?_
        refine aw_geti' (j := 0) dX11_digest_61 fX11_174 rfl (by assumption) rfl gl ?_
        refine aw_if_le (tgt := 71) dX11_digest_64 rfl (by omega) (fun c64 => ?_) (fun c64 => ?_)
        · exact absurd c64 (by omega)
        · refine aw_iconst dX11_digest_67 ?_
          refine aw_goto (tgt := 72) dX11_digest_68 rfl ?_
          refine aw_i2l dX11_digest_72 rfl ?_
          refine aw_ladd dX11_digest_73 ?_
          refine aw_lstore_n (ls1 := [(1, _), (3, _), (0, _)]) dX11_digest_74 (by decide) rfl ?_
          refine aw_aload_n dX11_digest_75 rfl ?_
          refine aw_getr' (j := 0) dX11_digest_76 fX11_12 rfl (by assumption) rfl (by assumption) ?_
          refine aw_getr' (j := 1) dX11_digest_79 fX11_163 rfl (by assumption) rfl (by assumption) ?_
          refine aw_iload_n dX11_digest_82 rfl ?_
          refine aw_aald5' dX11_digest_83 (by assumption) (by omega) (by first | decide | omega) rq ?_
          refine aw_geti' (j := 0) dX11_digest_84 fX11_174 rfl (by assumption) rfl gl ?_
          refine aw_if_le (tgt := 135) dX11_digest_87 rfl (by omega) (fun c87 => ?_) (fun c87 => ?_)
          · exact absurd c87 (by omega)
          · refine aw_aload_n dX11_digest_90 rfl ?_
            refine aw_lload_n dX11_digest_91 rfl ?_
            refine aw_aload_n dX11_digest_92 rfl ?_
            refine aw_getr' (j := 0) dX11_digest_93 fX11_12 rfl (by assumption) rfl (by assumption) ?_
            refine aw_getr' (j := 1) dX11_digest_96 fX11_163 rfl (by assumption) rfl (by assumption) ?_
            refine aw_iload_n dX11_digest_99 rfl ?_
            refine aw_aald5' dX11_digest_100 (by assumption) (by omega) (by first | decide | omega) rq ?_
            refine aw_invV_e dX11_digest_101 vX11_hashWriting kX11_247 rfl (K1) ⟨_, (by assumption), _, _, rfl⟩ rfl rfl (by decide) (by decide) (by decide) (Nat.le_of_ble_eq_true rfl) (fun H1 hP9 => ?_)
            obtain ⟨D1, E1⟩ := hP9
            obtain ⟨hkc', r0', r1', r2', r3', r4', r5', r6', r7', r8', hks', s0', s1', hkq', hkt'⟩ := cl_f D1
            obtain ⟨rq1, -⟩ := cl_q D1 hp
            have Q1 := hQ.eq (fun x x1 x2 => E1.2 x (by omega))
            have hkb1 := Q1.1.1
            have K2 := c_hSelect (γ := γ) (z := Z1) D1 Q1 oq.1 (by omega)
            generalize hSe F.1.1 (F.1.2 p) Z1 = Z2 at I K2
            refine aw_lstore_n (ls1 := [(1, _), (3, _), (0, _)]) dX11_digest_104 (by decide) rfl ?_
            refine aw_aload_n dX11_digest_105 rfl ?_
            refine aw_lload_n dX11_digest_106 rfl ?_
            refine aw_aload_n dX11_digest_107 rfl ?_
            refine aw_getr' (j := 0) dX11_digest_108 fX11_12 rfl (by assumption) rfl (by assumption) ?_
            refine aw_getr' (j := 1) dX11_digest_111 fX11_163 rfl (by assumption) rfl (by assumption) ?_
            refine aw_iload_n dX11_digest_114 rfl ?_
            refine aw_aald5' dX11_digest_115 (by assumption) (by omega) (by first | decide | omega) rq1 ?_
            refine aw_invV_e dX11_digest_116 vX11_hashSelection kX11_251 rfl (K2) ⟨_, (by assumption), _, _, rfl⟩ rfl rfl (by decide) (by decide) (by decide) (Nat.le_of_ble_eq_true rfl) (fun H2 hP9 => ?_)
            obtain ⟨D2, E2⟩ := hP9
            obtain ⟨hkc2, r02, r12, r22, r32, r42, r52, r62, r72, r82, hks2, s02, s12, hkq2, hkt2⟩ := cl_f D2
            obtain ⟨rq2, -⟩ := cl_q D2 hp
            have Q2 := Q1.eq (fun x x1 x2 => E2.eqA (fun z => by unfold EV at z; omega))
            have hkb2 := Q2.1.1
            have K3 := c_hUses (γ := γ) (z := Z2) D2 Q2 oq.1 lq (by omega)
            generalize hUs (F.1.2 p) Z2 = Z3 at I K3
            refine aw_lstore_n (ls1 := [(1, _), (3, _), (0, _)]) dX11_digest_119 (by decide) rfl ?_
            refine aw_aload_n dX11_digest_120 rfl ?_
            refine aw_lload_n dX11_digest_121 rfl ?_
            refine aw_aload_n dX11_digest_122 rfl ?_
            refine aw_getr' (j := 0) dX11_digest_123 fX11_12 rfl (by assumption) rfl (by assumption) ?_
            refine aw_getr' (j := 1) dX11_digest_126 fX11_163 rfl (by assumption) rfl (by assumption) ?_
            refine aw_iload_n dX11_digest_129 rfl ?_
            refine aw_aald5' dX11_digest_130 (by assumption) (by omega) (by first | decide | omega) rq2 ?_
            refine aw_invV_e dX11_digest_131 vX11_hashUses kX11_254 rfl (K3) ⟨_, (by assumption), _, _, rfl⟩ rfl rfl (by decide) (by decide) (by decide) (Nat.le_of_ble_eq_true rfl) (fun H3 hP9 => ?_)
            obtain ⟨D3, E3⟩ := hP9
            refine aw_lstore_n (ls1 := [(1, _), (3, _), (0, _)]) dX11_digest_134 (by decide) rfl ?_
            refine aw_iinc (k9 := 1) (ls1 := [(3, _), (1, _), (0, _)]) dX11_digest_135 rfl (by decide) rfl ?_
            refine aw_goto (tgt := 42) dX11_digest_138 rfl ?_
            refine aw_sub [0, 1, 2] rfl ?_
            exact I H3 D3 (((hE.tr (E1.mono (by omega) (by omega))).tr (EV_O (Or.inl rfl) E2)).tr (E3.mono (by omega) (by omega)))
theorem c_digest {γ : GG} {h : AH} {c : Nat} {F : FS} (hC : isCl h c F) : Call γ mX11_digest 10 0 0 [vr (some c)] h (rE (vl (dgS F)) (fun h' => isCl h' c F ∧ eqO h h' c (c + 1704))) := by
  have hkh : kd h (c + 309) = some (.inl 1) := hC.2.2.1.1.1
  have ghl : gi h (c + 309) 2 = (F.2.1.length : Int) := hC.2.2.1.2.1
  have hkx := hC.2.2.2.1.1.1
  have gx1 : gi h (c + 1543) 1 = (F.2.2.length : Int) := hC.2.2.2.1.2.1
  have KT := c_hTree (γ := γ) (z := mx9 (mx9 18335 (F.2.1.length : Int)) (F.2.2.length : Int)) hC
  have hz : dgS F = itr9 (hPp F.1.1 F.1.2) 4 (hTr F.1.1 (mx9 (mx9 (mx9 18335 (F.2.1.length : Int)) (F.2.2.length : Int)) (tn F.1.1 : Int))) := rfl
  generalize hTr F.1.1 (mx9 (mx9 (mx9 18335 (F.2.1.length : Int)) (F.2.2.length : Int)) (tn F.1.1 : Int)) = Z at KT hz
  have L := l_cd42 (γ := γ) (h := h) hz 4 0 h rfl hC eqO.rf
  rw [itr9_0] at L
  obtain ⟨hkc, r0, r1, r2, r3, r4, r5, r6, r7, r8, hks, s0, s1, hkq, hkt⟩ := cl_f hC
  refine Call.of (ls := [(0, vr (some c))]) vX11_digest.1 (Nat.le_of_ble_eq_true rfl) rfl ?_
  refine aw_ldc2 dX11_digest_0 qX11_239 ?_
  refine aw_lstore_n (ls1 := [(1, _), (0, _)]) dX11_digest_3 (by decide) rfl ?_
  refine aw_ldc2 dX11_digest_4 qX11_241 ?_
  refine aw_lload_n dX11_digest_7 rfl ?_
  refine aw_lmul dX11_digest_8 ?_
  refine aw_aload_n dX11_digest_9 rfl ?_
  refine aw_getr' (j := 1) dX11_digest_10 fX11_19 rfl (by assumption) rfl (by assumption) ?_
  refine aw_geti' (j := 2) dX11_digest_13 fX11_233 rfl (by assumption) rfl ghl ?_
  refine aw_i2l dX11_digest_16 rfl ?_
  refine aw_ladd dX11_digest_17 ?_
  refine aw_lstore_n (ls1 := [(1, _), (0, _)]) dX11_digest_18 (by decide) rfl ?_
  refine aw_ldc2 dX11_digest_19 qX11_241 ?_
  refine aw_lload_n dX11_digest_22 rfl ?_
  refine aw_lmul dX11_digest_23 ?_
  refine aw_aload_n dX11_digest_24 rfl ?_
  refine aw_getr' (j := 2) dX11_digest_25 fX11_28 rfl (by assumption) rfl (by assumption) ?_
  refine aw_geti' (j := 1) dX11_digest_28 fX11_150 rfl (by assumption) rfl gx1 ?_
  refine aw_i2l dX11_digest_31 rfl ?_
  refine aw_ladd dX11_digest_32 ?_
  refine aw_lstore_n (ls1 := [(1, _), (0, _)]) dX11_digest_33 (by decide) rfl ?_
  refine aw_aload_n dX11_digest_34 rfl ?_
  refine aw_lload_n dX11_digest_35 rfl ?_
  refine aw_invV_r dX11_digest_36 vX11_hashTree kX11_243 rfl (KT) ⟨_, (by assumption), _, _, rfl⟩ rfl rfl (by decide) (by decide) (by decide) (Nat.le_of_ble_eq_true rfl) ?_
  refine aw_lstore_n (ls1 := [(1, _), (0, _)]) dX11_digest_39 (by decide) rfl ?_
  refine aw_iconst dX11_digest_40 ?_
  refine aw_istore_n (ls1 := [(3, _), (1, _), (0, _)]) dX11_digest_41 (by decide) rfl ?_
  refine aw_sub [0, 1, 2] rfl ?_
  exact L
