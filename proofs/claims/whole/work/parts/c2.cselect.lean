/-! ===== the outer class: count, sum, selected, given, differences ===== -/
theorem isWk.ev {h h' : AH} {c e : Nat} (s : isWk h c) (he : e = c + 1698 ∨ e = c + 1701) (q : eqT (EV e) h h') : isWk h' c := by
  obtain ⟨h1, ⟨π, ρ, h2⟩, ⟨π2, ρ2, h3⟩, h4, h5, h6⟩ := s
  have e2 : ∀ b, (b < e + 1 ∨ e + 3 ≤ b) → eqA h h' b := fun b hb => q.eqA (fun z => by unfold EV at z; omega)
  exact ⟨isTx_eq h1 (fun b b1 b2 => e2 b (by omega)), ⟨π, ρ, h2.eq (fun b b1 b2 => e2 b (by omega))⟩, ⟨π2, ρ2, shZ_eq h3 (fun b b1 b2 => e2 b (by omega))⟩, h4.eq (fun b b1 b2 => e2 b (by omega)), q.shE h5, q.shE h6⟩
theorem isCl.ev {h h' : AH} {c e : Nat} {F : FS} (s : isCl h c F) (he : e = c + 1698 ∨ e = c + 1701) (q : eqT (EV e) h h') : isCl h' c F := s.wk (fun b b1 b2 => q.eqA (fun z => by unfold EV at z; omega)) (s.2.2.2.2.1.ev he q)
theorem EV_O {h h' : AH} {c e : Nat} (he : e = c + 1698 ∨ e = c + 1701) (q : eqT (EV e) h h') : eqO h h' c (c + 1704) := q.eqO (fun b z => by unfold EV at z; omega)
theorem c_selF {γ : GG} {h : AH} {c u x : Nat} {F : FS} (hC : isCl h c F) (hu : u < 4) (hx : x < tn F.1.1) : Call γ mX11_selectedFrom 6 0 0 [vr (some c), vi (u : Int), vi (x : Int)] h (rE (vl (S9 (selF F.1.1 (F.1.2 u) x))) (fun h' => isCl h' c F ∧ eqO h h' c (c + 1704))) := by
  obtain ⟨S, U, tx⟩ := F
  obtain ⟨T, qs⟩ := S
  have hC : isCl h c ((T, qs), U, tx) := hC
  obtain ⟨hkc, r0, r1, r2, r3, r4, r5, r6, r7, r8, hks, s0, s1, hkq, hkt⟩ := cl_f hC
  have hT : isTr h (c + 1 + 1) T := hC.2.1.2.1
  have oT : okTr T := hC.2.2.2.2.2.1.1
  have o9 := oT.o
  have n40 := o9.2.1
  have n1 := o9.1
  have gt0 : gi h (c + 1 + 1) 0 = (tn T : Int) := hT.2.1
  obtain ⟨rq, π, ρ, hQ⟩ := cl_q hC hu
  have hQ : isQ h (c + 1 + 12 + 74 * u) π ρ (qs u) := hQ
  have oq : okQ (qs u) ∧ lnQ (qs u) := hC.2.2.2.2.2.1.2 u hu
  have hkq9 := hQ.1.1
  have hE : shE h (c + 1698) := hC.2.2.2.2.1.2.2.2.2.1
  have hke := hE.1
  have KP := c_prepare (γ := γ) hE hT oT hQ oq.1 (by omega) (by omega)
  have hx : x < tn T := hx
  refine Call.of (ls := [(0, vr (some c)), (1, vi (u : Int)), (2, vi (x : Int))]) vX11_selectedFrom.1 (Nat.le_of_ble_eq_true rfl) rfl ?_
  refine aw_aload_n dX11_selectedFrom_0 rfl ?_
  refine aw_getr' (j := 7) dX11_selectedFrom_1 fX11_59 rfl (by assumption) rfl (by assumption) ?_
  refine aw_aload_n dX11_selectedFrom_4 rfl ?_
  refine aw_getr' (j := 0) dX11_selectedFrom_5 fX11_12 rfl (by assumption) rfl (by assumption) ?_
  refine aw_getr' (j := 0) dX11_selectedFrom_8 fX11_73 rfl (by assumption) rfl (by assumption) ?_
  refine aw_aload_n dX11_selectedFrom_11 rfl ?_
  refine aw_getr' (j := 0) dX11_selectedFrom_12 fX11_12 rfl (by assumption) rfl (by assumption) ?_
  refine aw_getr' (j := 1) dX11_selectedFrom_15 fX11_163 rfl (by assumption) rfl (by assumption) ?_
  refine aw_iload_n dX11_selectedFrom_18 rfl ?_
  refine aw_aald5' dX11_selectedFrom_19 (by assumption) (by omega) (by first | decide | omega) rq ?_
  refine aw_invV_f dX11_selectedFrom_20 vX1_prepare kX11_206 rfl (KP) ⟨_, (by assumption), _, _, rfl⟩ rfl rfl (by decide) (by decide) (by decide) (Nat.le_of_ble_eq_true rfl) (fun H1 hP9 => ?_)
  obtain ⟨E1, G1⟩ := hP9
  have C1 : isCl H1 c ((T, qs), U, tx) := hC.ev (Or.inl rfl) E1
  have EE := EV_O (c := c) (Or.inl rfl) E1
  obtain ⟨hkc', r0', r1', r2', r3', r4', r5', r6', r7', r8', hks', s0', s1', hkq', hkt'⟩ := cl_f C1
  obtain ⟨rq', -⟩ := cl_q C1 hu
  have hT1 : isTr H1 (c + 1 + 1) T := C1.2.1.2.1
  have hQ1 : isQ H1 (c + 1 + 12 + 74 * u) π ρ (qs u) := hQ.eq (fun b b1 b2 => E1.eqA (fun z => by unfold EV at z; omega))
  have hkq1 := hQ1.1.1
  have hE1 := E1.shE hE
  have hke1 := hE1.1
  have KS := c_selectFrom (γ := γ) hE1 hQ1 oq.1 n40 G1 hx
  refine aw_aload_n dX11_selectedFrom_23 rfl ?_
  refine aw_getr' (j := 7) dX11_selectedFrom_24 fX11_59 rfl (by assumption) rfl (by assumption) ?_
  refine aw_aload_n dX11_selectedFrom_27 rfl ?_
  refine aw_getr' (j := 0) dX11_selectedFrom_28 fX11_12 rfl (by assumption) rfl (by assumption) ?_
  refine aw_getr' (j := 1) dX11_selectedFrom_31 fX11_163 rfl (by assumption) rfl (by assumption) ?_
  refine aw_iload_n dX11_selectedFrom_34 rfl ?_
  refine aw_aald5' dX11_selectedFrom_35 (by assumption) (by omega) (by first | decide | omega) rq' ?_
  refine aw_iload_n dX11_selectedFrom_36 rfl ?_
  refine aw_invV_r dX11_selectedFrom_37 vX1_selectFrom kX11_214 rfl (KS) ⟨_, (by assumption), _, _, rfl⟩ rfl rfl (by decide) (by decide) (by decide) (Nat.le_of_ble_eq_true rfl) ?_
  exact aw_lreturn dX11_selectedFrom_40 rfl (Or.inl rfl) ⟨rfl, C1, EE⟩
theorem c_count {γ : GG} {h : AH} {c : Nat} {F : FS} {p v : Int} (hC : isCl h c F) (hn : nx h = none) (hp : (-2147483648 ≤ p ∧ p ≤ 2147483647)) (hv : (-2147483648 ≤ v ∧ v ≤ 2147483647)) : Call γ mX11_count 8 1 6 [vr (some c), vi p, vi v] h (rC9 h c [xnIO, xnIS] (opCnt F p v)) := by
  obtain ⟨S, U, tx⟩ := F
  obtain ⟨T, qs⟩ := S
  have hC : isCl h c ((T, qs), U, tx) := hC
  obtain ⟨hkc, r0, r1, r2, r3, r4, r5, r6, r7, r8, hks, s0, s1, hkq, hkt⟩ := cl_f hC
  have hT : isTr h (c + 1 + 1) T := hC.2.1.2.1
  have oT : okTr T := hC.2.2.2.2.2.1.1
  have o9 := oT.o
  have n40 := o9.2.1
  have n1 := o9.1
  have gt0 : gi h (c + 1 + 1) 0 = (tn T : Int) := hT.2.1
  unfold opCnt
  dsimp only
  by_cases c1 : 0 ≤ p ∧ p ≤ 3
  · by_cases c2 : 0 ≤ v ∧ v < (tn T : Int)
    · rw [if_neg (fun z => z ⟨c1, c2⟩)]
      obtain ⟨u, rfl⟩ := Int.eq_ofNat_of_zero_le c1.1
      obtain ⟨x, rfl⟩ := Int.eq_ofNat_of_zero_le c2.1
      rw [Int.toNat_natCast, Int.toNat_natCast]
      have hu : u < 4 := by omega
      have hx : x < tn T := by omega
      by_cases d3 : qs u = []
      · rw [if_pos d3]
        refine Call.of (ls := [(0, vr (some c)), (1, vi (u : Int)), (2, vi (x : Int))]) vX11_count.1 (Nat.le_of_ble_eq_true rfl) rfl ?_
        refine aw_aload_n dX11_count_0 rfl ?_
        refine aw_iload_n dX11_count_1 rfl ?_
        refine aw_invV_n dX11_count_2 vX11_requirePlace kX11_156 rfl (c_rPlace (γ := γ) (h := h) hp c1) ⟨_, (by assumption), _, _, rfl⟩ rfl rfl (by decide) (by decide) (by decide) (Nat.le_of_ble_eq_true rfl) ?_
        refine aw_aload_n dX11_count_5 rfl ?_
        refine aw_iload_n dX11_count_6 rfl ?_
        refine aw_invV_n dX11_count_7 vX11_requireNode kX11_66 rfl (c_rNode (γ := γ) hC hv c2) ⟨_, (by assumption), _, _, rfl⟩ rfl rfl (by decide) (by decide) (by decide) (Nat.le_of_ble_eq_true rfl) ?_
        refine aw_aload_n dX11_count_10 rfl ?_
        refine aw_iload_n dX11_count_11 rfl ?_
        exact aw_invV_x dX11_count_12 vX11_requireQuery kX11_175 rfl (c_rQuery_x (γ := γ) hC hu hn (fun z => z d3)) ⟨_, (by assumption), _, _, rfl⟩ rfl rfl (by decide) (by decide) (by decide) (Nat.le_of_ble_eq_true rfl) (rC_err hC (by decide) rfl)
      · rw [if_neg d3]
        refine Call.of (ls := [(0, vr (some c)), (1, vi (u : Int)), (2, vi (x : Int))]) vX11_count.1 (Nat.le_of_ble_eq_true rfl) rfl ?_
        refine aw_aload_n dX11_count_0 rfl ?_
        refine aw_iload_n dX11_count_1 rfl ?_
        refine aw_invV_n dX11_count_2 vX11_requirePlace kX11_156 rfl (c_rPlace (γ := γ) (h := h) hp c1) ⟨_, (by assumption), _, _, rfl⟩ rfl rfl (by decide) (by decide) (by decide) (Nat.le_of_ble_eq_true rfl) ?_
        refine aw_aload_n dX11_count_5 rfl ?_
        refine aw_iload_n dX11_count_6 rfl ?_
        refine aw_invV_n dX11_count_7 vX11_requireNode kX11_66 rfl (c_rNode (γ := γ) hC hv c2) ⟨_, (by assumption), _, _, rfl⟩ rfl rfl (by decide) (by decide) (by decide) (Nat.le_of_ble_eq_true rfl) ?_
        refine aw_aload_n dX11_count_10 rfl ?_
        refine aw_iload_n dX11_count_11 rfl ?_
        refine aw_invV_n dX11_count_12 vX11_requireQuery kX11_175 rfl (c_rQuery (γ := γ) hC hu d3) ⟨_, (by assumption), _, _, rfl⟩ rfl rfl (by decide) (by decide) (by decide) (Nat.le_of_ble_eq_true rfl) ?_
        refine aw_aload_n dX11_count_15 rfl ?_
        refine aw_iload_n dX11_count_16 rfl ?_
        refine aw_iload_n dX11_count_17 rfl ?_
        refine aw_invV_e dX11_count_18 vX11_selectedFrom kX11_193 rfl (c_selF (γ := γ) hC hu hx) ⟨_, (by assumption), _, _, rfl⟩ rfl rfl (by decide) (by decide) (by decide) (Nat.le_of_ble_eq_true rfl) (fun H1 hP9 => ?_)
        obtain ⟨C1, EE⟩ := hP9
        refine aw_invS_r dX11_count_21 sJ13_bitCount_95d88 kX11_133 rfl (c_bcS (γ := γ) (selF T (qs u) x)) rfl rfl (by decide) (by decide) (by decide) (Nat.le_of_ble_eq_true rfl) ?_
        exact aw_ireturn dX11_count_24 rfl (Or.inr (EE.1.trans hn)) (rC_ok C1 EE)
    · rw [if_pos (fun z => c2 z.2)]
      refine Call.of (ls := [(0, vr (some c)), (1, vi p), (2, vi v)]) vX11_count.1 (Nat.le_of_ble_eq_true rfl) rfl ?_
      refine aw_aload_n dX11_count_0 rfl ?_
      refine aw_iload_n dX11_count_1 rfl ?_
      refine aw_invV_n dX11_count_2 vX11_requirePlace kX11_156 rfl (c_rPlace (γ := γ) (h := h) hp c1) ⟨_, (by assumption), _, _, rfl⟩ rfl rfl (by decide) (by decide) (by decide) (Nat.le_of_ble_eq_true rfl) ?_
      refine aw_aload_n dX11_count_5 rfl ?_
      refine aw_iload_n dX11_count_6 rfl ?_
      exact aw_invV_x dX11_count_7 vX11_requireNode kX11_66 rfl (c_rNode_x (γ := γ) hC hv hn c2) ⟨_, (by assumption), _, _, rfl⟩ rfl rfl (by decide) (by decide) (by decide) (Nat.le_of_ble_eq_true rfl) (rC_err hC (by decide) rfl)
  · rw [if_pos (fun z => c1 z.1)]
    refine Call.of (ls := [(0, vr (some c)), (1, vi p), (2, vi v)]) vX11_count.1 (Nat.le_of_ble_eq_true rfl) rfl ?_
    refine aw_aload_n dX11_count_0 rfl ?_
    refine aw_iload_n dX11_count_1 rfl ?_
    exact aw_invV_x dX11_count_2 vX11_requirePlace kX11_156 rfl (c_rPlace_x (γ := γ) (h := h) hp hn c1) ⟨_, (by assumption), _, _, rfl⟩ rfl rfl (by decide) (by decide) (by decide) (Nat.le_of_ble_eq_true rfl) (rC_err hC (by decide) rfl)
theorem c_sum {γ : GG} {h : AH} {c : Nat} {F : FS} {p v : Int} (hC : isCl h c F) (hn : nx h = none) (hp : (-2147483648 ≤ p ∧ p ≤ 2147483647)) (hv : (-2147483648 ≤ v ∧ v ≤ 2147483647)) : Call γ mX11_sum 8 1 6 [vr (some c), vi p, vi v] h (rC9 h c [xnIO, xnIS] (opSum F p v)) := by
  obtain ⟨S, U, tx⟩ := F
  obtain ⟨T, qs⟩ := S
  have hC : isCl h c ((T, qs), U, tx) := hC
  obtain ⟨hkc, r0, r1, r2, r3, r4, r5, r6, r7, r8, hks, s0, s1, hkq, hkt⟩ := cl_f hC
  have hT : isTr h (c + 1 + 1) T := hC.2.1.2.1
  have oT : okTr T := hC.2.2.2.2.2.1.1
  have o9 := oT.o
  have n40 := o9.2.1
  have n1 := o9.1
  have gt0 : gi h (c + 1 + 1) 0 = (tn T : Int) := hT.2.1
  unfold opSum
  dsimp only
  by_cases c1 : 0 ≤ p ∧ p ≤ 3
  · by_cases c2 : 0 ≤ v ∧ v < (tn T : Int)
    · rw [if_neg (fun z => z ⟨c1, c2⟩)]
      obtain ⟨u, rfl⟩ := Int.eq_ofNat_of_zero_le c1.1
      obtain ⟨x, rfl⟩ := Int.eq_ofNat_of_zero_le c2.1
      rw [Int.toNat_natCast, Int.toNat_natCast]
      have hu : u < 4 := by omega
      have hx : x < tn T := by omega
      by_cases d3 : qs u = []
      · rw [if_pos d3]
        refine Call.of (ls := [(0, vr (some c)), (1, vi (u : Int)), (2, vi (x : Int))]) vX11_sum.1 (Nat.le_of_ble_eq_true rfl) rfl ?_
        refine aw_aload_n dX11_sum_0 rfl ?_
        refine aw_iload_n dX11_sum_1 rfl ?_
        refine aw_invV_n dX11_sum_2 vX11_requirePlace kX11_156 rfl (c_rPlace (γ := γ) (h := h) hp c1) ⟨_, (by assumption), _, _, rfl⟩ rfl rfl (by decide) (by decide) (by decide) (Nat.le_of_ble_eq_true rfl) ?_
        refine aw_aload_n dX11_sum_5 rfl ?_
        refine aw_iload_n dX11_sum_6 rfl ?_
        refine aw_invV_n dX11_sum_7 vX11_requireNode kX11_66 rfl (c_rNode (γ := γ) hC hv c2) ⟨_, (by assumption), _, _, rfl⟩ rfl rfl (by decide) (by decide) (by decide) (Nat.le_of_ble_eq_true rfl) ?_
        refine aw_aload_n dX11_sum_10 rfl ?_
        refine aw_iload_n dX11_sum_11 rfl ?_
        exact aw_invV_x dX11_sum_12 vX11_requireQuery kX11_175 rfl (c_rQuery_x (γ := γ) hC hu hn (fun z => z d3)) ⟨_, (by assumption), _, _, rfl⟩ rfl rfl (by decide) (by decide) (by decide) (Nat.le_of_ble_eq_true rfl) (rC_err hC (by decide) rfl)
      · rw [if_neg d3]
        refine Call.of (ls := [(0, vr (some c)), (1, vi (u : Int)), (2, vi (x : Int))]) vX11_sum.1 (Nat.le_of_ble_eq_true rfl) rfl ?_
        refine aw_aload_n dX11_sum_0 rfl ?_
        refine aw_iload_n dX11_sum_1 rfl ?_
        refine aw_invV_n dX11_sum_2 vX11_requirePlace kX11_156 rfl (c_rPlace (γ := γ) (h := h) hp c1) ⟨_, (by assumption), _, _, rfl⟩ rfl rfl (by decide) (by decide) (by decide) (Nat.le_of_ble_eq_true rfl) ?_
        refine aw_aload_n dX11_sum_5 rfl ?_
        refine aw_iload_n dX11_sum_6 rfl ?_
        refine aw_invV_n dX11_sum_7 vX11_requireNode kX11_66 rfl (c_rNode (γ := γ) hC hv c2) ⟨_, (by assumption), _, _, rfl⟩ rfl rfl (by decide) (by decide) (by decide) (Nat.le_of_ble_eq_true rfl) ?_
        refine aw_aload_n dX11_sum_10 rfl ?_
        refine aw_iload_n dX11_sum_11 rfl ?_
        refine aw_invV_n dX11_sum_12 vX11_requireQuery kX11_175 rfl (c_rQuery (γ := γ) hC hu d3) ⟨_, (by assumption), _, _, rfl⟩ rfl rfl (by decide) (by decide) (by decide) (Nat.le_of_ble_eq_true rfl) ?_
        refine aw_aload_n dX11_sum_15 rfl ?_
        refine aw_getr' (j := 0) dX11_sum_16 fX11_12 rfl (by assumption) rfl (by assumption) ?_
        refine aw_getr' (j := 0) dX11_sum_19 fX11_73 rfl (by assumption) rfl (by assumption) ?_
        refine aw_aload_n dX11_sum_22 rfl ?_
        refine aw_iload_n dX11_sum_23 rfl ?_
        refine aw_iload_n dX11_sum_24 rfl ?_
        refine aw_invV_e dX11_sum_25 vX11_selectedFrom kX11_193 rfl (c_selF (γ := γ) hC hu hx) ⟨_, (by assumption), _, _, rfl⟩ rfl rfl (by decide) (by decide) (by decide) (Nat.le_of_ble_eq_true rfl) (fun H1 hP9 => ?_)
        obtain ⟨C1, EE⟩ := hP9
        have hT1 : isTr H1 (c + 1 + 1) T := C1.2.1.2.1
        have hkt1 := hT1.1.1
        refine aw_invV_r dX11_sum_28 vX10_totalOf kX11_196 rfl (c_totalOf (γ := γ) hT1 oT) ⟨_, (by assumption), _, _, rfl⟩ rfl rfl (by decide) (by decide) (by decide) (Nat.le_of_ble_eq_true rfl) ?_
        exact aw_ireturn dX11_sum_31 rfl (Or.inr (EE.1.trans hn)) (rC_ok C1 EE)
    · rw [if_pos (fun z => c2 z.2)]
      refine Call.of (ls := [(0, vr (some c)), (1, vi p), (2, vi v)]) vX11_sum.1 (Nat.le_of_ble_eq_true rfl) rfl ?_
      refine aw_aload_n dX11_sum_0 rfl ?_
      refine aw_iload_n dX11_sum_1 rfl ?_
      refine aw_invV_n dX11_sum_2 vX11_requirePlace kX11_156 rfl (c_rPlace (γ := γ) (h := h) hp c1) ⟨_, (by assumption), _, _, rfl⟩ rfl rfl (by decide) (by decide) (by decide) (Nat.le_of_ble_eq_true rfl) ?_
      refine aw_aload_n dX11_sum_5 rfl ?_
      refine aw_iload_n dX11_sum_6 rfl ?_
      exact aw_invV_x dX11_sum_7 vX11_requireNode kX11_66 rfl (c_rNode_x (γ := γ) hC hv hn c2) ⟨_, (by assumption), _, _, rfl⟩ rfl rfl (by decide) (by decide) (by decide) (Nat.le_of_ble_eq_true rfl) (rC_err hC (by decide) rfl)
  · rw [if_pos (fun z => c1 z.1)]
    refine Call.of (ls := [(0, vr (some c)), (1, vi p), (2, vi v)]) vX11_sum.1 (Nat.le_of_ble_eq_true rfl) rfl ?_
    refine aw_aload_n dX11_sum_0 rfl ?_
    refine aw_iload_n dX11_sum_1 rfl ?_
    exact aw_invV_x dX11_sum_2 vX11_requirePlace kX11_156 rfl (c_rPlace_x (γ := γ) (h := h) hp hn c1) ⟨_, (by assumption), _, _, rfl⟩ rfl rfl (by decide) (by decide) (by decide) (Nat.le_of_ble_eq_true rfl) (rC_err hC (by decide) rfl)
theorem c_selected {γ : GG} {h : AH} {c : Nat} {F : FS} {p v i : Int} (hC : isCl h c F) (hn : nx h = none) (hp : (-2147483648 ≤ p ∧ p ≤ 2147483647)) (hv : (-2147483648 ≤ v ∧ v ≤ 2147483647)) (hi : (-2147483648 ≤ i ∧ i ≤ 2147483647)) : Call γ mX11_selected 8 1 6 [vr (some c), vi p, vi v, vi i] h (rC9 h c [xnIO, xnIA, xnIS] (opSel F p v i)) := by
  obtain ⟨S, U, tx⟩ := F
  obtain ⟨T, qs⟩ := S
  have hC : isCl h c ((T, qs), U, tx) := hC
  obtain ⟨hkc, r0, r1, r2, r3, r4, r5, r6, r7, r8, hks, s0, s1, hkq, hkt⟩ := cl_f hC
  have hT : isTr h (c + 1 + 1) T := hC.2.1.2.1
  have oT : okTr T := hC.2.2.2.2.2.1.1
  have o9 := oT.o
  have n40 := o9.2.1
  have n1 := o9.1
  have gt0 : gi h (c + 1 + 1) 0 = (tn T : Int) := hT.2.1
  unfold opSel
  dsimp only
  by_cases c1 : 0 ≤ p ∧ p ≤ 3
  · by_cases c2 : 0 ≤ v ∧ v < (tn T : Int)
    · rw [if_neg (fun z => z ⟨c1, c2⟩)]
      by_cases d2 : i < 0
      · rw [if_pos d2]
        refine Call.of (ls := [(0, vr (some c)), (1, vi p), (2, vi v), (3, vi i)]) vX11_selected.1 (Nat.le_of_ble_eq_true rfl) rfl ?_
        refine aw_aload_n dX11_selected_0 rfl ?_
        refine aw_iload_n dX11_selected_1 rfl ?_
        refine aw_invV_n dX11_selected_2 vX11_requirePlace kX11_156 rfl (c_rPlace (γ := γ) (h := h) hp c1) ⟨_, (by assumption), _, _, rfl⟩ rfl rfl (by decide) (by decide) (by decide) (Nat.le_of_ble_eq_true rfl) ?_
        refine aw_aload_n dX11_selected_5 rfl ?_
        refine aw_iload_n dX11_selected_6 rfl ?_
        refine aw_invV_n dX11_selected_7 vX11_requireNode kX11_66 rfl (c_rNode (γ := γ) hC hv c2) ⟨_, (by assumption), _, _, rfl⟩ rfl rfl (by decide) (by decide) (by decide) (Nat.le_of_ble_eq_true rfl) ?_
        refine aw_aload_n dX11_selected_10 rfl ?_
        refine aw_iload_n dX11_selected_11 rfl ?_
        exact aw_invV_x dX11_selected_12 vX11_requireNotNegative kX11_126 rfl (c_rNotNeg_x (γ := γ) (h := h) hi hn (by omega)) ⟨_, (by assumption), _, _, rfl⟩ rfl rfl (by decide) (by decide) (by decide) (Nat.le_of_ble_eq_true rfl) (rC_err hC (by decide) rfl)
      · rw [if_neg d2]
        obtain ⟨u, rfl⟩ := Int.eq_ofNat_of_zero_le c1.1
        obtain ⟨x, rfl⟩ := Int.eq_ofNat_of_zero_le c2.1
        obtain ⟨y, rfl⟩ := Int.eq_ofNat_of_zero_le (show 0 ≤ i by omega)
        rw [Int.toNat_natCast, Int.toNat_natCast]
        have hu : u < 4 := by omega
        have hx : x < tn T := by omega
        by_cases d3 : qs u = []
        · rw [if_pos d3]
          refine Call.of (ls := [(0, vr (some c)), (1, vi (u : Int)), (2, vi (x : Int)), (3, vi (y : Int))]) vX11_selected.1 (Nat.le_of_ble_eq_true rfl) rfl ?_
          refine aw_aload_n dX11_selected_0 rfl ?_
          refine aw_iload_n dX11_selected_1 rfl ?_
          refine aw_invV_n dX11_selected_2 vX11_requirePlace kX11_156 rfl (c_rPlace (γ := γ) (h := h) hp c1) ⟨_, (by assumption), _, _, rfl⟩ rfl rfl (by decide) (by decide) (by decide) (Nat.le_of_ble_eq_true rfl) ?_
          refine aw_aload_n dX11_selected_5 rfl ?_
          refine aw_iload_n dX11_selected_6 rfl ?_
          refine aw_invV_n dX11_selected_7 vX11_requireNode kX11_66 rfl (c_rNode (γ := γ) hC hv c2) ⟨_, (by assumption), _, _, rfl⟩ rfl rfl (by decide) (by decide) (by decide) (Nat.le_of_ble_eq_true rfl) ?_
          refine aw_aload_n dX11_selected_10 rfl ?_
          refine aw_iload_n dX11_selected_11 rfl ?_
          refine aw_invV_n dX11_selected_12 vX11_requireNotNegative kX11_126 rfl (c_rNotNeg (γ := γ) (h := h) hi (by omega)) ⟨_, (by assumption), _, _, rfl⟩ rfl rfl (by decide) (by decide) (by decide) (Nat.le_of_ble_eq_true rfl) ?_
          refine aw_aload_n dX11_selected_15 rfl ?_
          refine aw_iload_n dX11_selected_16 rfl ?_
          exact aw_invV_x dX11_selected_17 vX11_requireQuery kX11_175 rfl (c_rQuery_x (γ := γ) hC hu hn (fun z => z d3)) ⟨_, (by assumption), _, _, rfl⟩ rfl rfl (by decide) (by decide) (by decide) (Nat.le_of_ble_eq_true rfl) (rC_err hC (by decide) rfl)
        · rw [if_neg d3]
          have ll := fu_len (selF T (qs u) x) (tn T)
          have l40 := sel_40 (q := qs u) oT hx
          have lle := fb_ct_le (selF T (qs u) x) (tn T)
          unfold atL
          rw [Int.toNat_natCast]
          by_cases d4 : y < (fu (selF T (qs u) x) (tn T)).length
          · obtain ⟨z, hz⟩ : ∃ z, (fu (selF T (qs u) x) (tn T))[y]? = some z := ⟨_, List.getElem?_eq_getElem d4⟩
            rw [hz]
            dsimp only
            obtain ⟨z1, z2, z3⟩ := fu_at _ _ _ hz
            have KP := fun H : AH => c_position (γ := γ) (h := H) (f := fun k => decide (k = z)) (i := z) ⟨by omega, decide_eq_true rfl, fun k hk => decide_eq_false (by omega)⟩
            refine Call.of (ls := [(0, vr (some c)), (1, vi (u : Int)), (2, vi (x : Int)), (3, vi (y : Int))]) vX11_selected.1 (Nat.le_of_ble_eq_true rfl) rfl ?_
            refine aw_aload_n dX11_selected_0 rfl ?_
            refine aw_iload_n dX11_selected_1 rfl ?_
            refine aw_invV_n dX11_selected_2 vX11_requirePlace kX11_156 rfl (c_rPlace (γ := γ) (h := h) hp c1) ⟨_, (by assumption), _, _, rfl⟩ rfl rfl (by decide) (by decide) (by decide) (Nat.le_of_ble_eq_true rfl) ?_
            refine aw_aload_n dX11_selected_5 rfl ?_
            refine aw_iload_n dX11_selected_6 rfl ?_
            refine aw_invV_n dX11_selected_7 vX11_requireNode kX11_66 rfl (c_rNode (γ := γ) hC hv c2) ⟨_, (by assumption), _, _, rfl⟩ rfl rfl (by decide) (by decide) (by decide) (Nat.le_of_ble_eq_true rfl) ?_
            refine aw_aload_n dX11_selected_10 rfl ?_
            refine aw_iload_n dX11_selected_11 rfl ?_
            refine aw_invV_n dX11_selected_12 vX11_requireNotNegative kX11_126 rfl (c_rNotNeg (γ := γ) (h := h) hi (by omega)) ⟨_, (by assumption), _, _, rfl⟩ rfl rfl (by decide) (by decide) (by decide) (Nat.le_of_ble_eq_true rfl) ?_
            refine aw_aload_n dX11_selected_15 rfl ?_
            refine aw_iload_n dX11_selected_16 rfl ?_
            refine aw_invV_n dX11_selected_17 vX11_requireQuery kX11_175 rfl (c_rQuery (γ := γ) hC hu d3) ⟨_, (by assumption), _, _, rfl⟩ rfl rfl (by decide) (by decide) (by decide) (Nat.le_of_ble_eq_true rfl) ?_
            refine aw_aload_n dX11_selected_20 rfl ?_
            refine aw_iload_n dX11_selected_21 rfl ?_
            refine aw_iload_n dX11_selected_22 rfl ?_
            refine aw_invV_e dX11_selected_23 vX11_selectedFrom kX11_193 rfl (c_selF (γ := γ) hC hu hx) ⟨_, (by assumption), _, _, rfl⟩ rfl rfl (by decide) (by decide) (by decide) (Nat.le_of_ble_eq_true rfl) (fun H1 hP9 => ?_)
            obtain ⟨C1, EE⟩ := hP9
            refine aw_lstore (ls1 := [(4, _), (0, _), (1, _), (2, _), (3, _)]) dX11_selected_26 (by decide) rfl ?_
            refine aw_iload_n dX11_selected_28 rfl ?_
            refine aw_lload dX11_selected_29 rfl ?_
            refine aw_invS_r dX11_selected_31 sJ13_bitCount_95d88 kX11_133 rfl (c_bcS (γ := γ) (selF T (qs u) x)) rfl rfl (by decide) (by decide) (by decide) (Nat.le_of_ble_eq_true rfl) ?_
            refine aw_ic_ge (tgt := 49) dX11_selected_34 rfl (by omega) (by omega) (fun c34 => ?_) (fun c34 => ?_)
            · exact absurd c34 (by omega)
            · refine aw_lload dX11_selected_37 rfl ?_
              refine aw_iload_n dX11_selected_39 rfl ?_
              refine aw_invS_r dX11_selected_40 sX10_nth kX11_143 rfl (c_nth (γ := γ) (f := selF T (qs u) x) (x := z) (i := y) (by omega) z2 z3) rfl rfl (by decide) (by decide) (by decide) (Nat.le_of_ble_eq_true rfl) ?_
              refine aw_invS_r dX11_selected_43 sX10_position kX11_147 rfl (KP H1) rfl rfl (by decide) (by decide) (by decide) (Nat.le_of_ble_eq_true rfl) ?_
              refine aw_goto (tgt := 50) dX11_selected_46 rfl ?_
              exact aw_ireturn dX11_selected_50 rfl (Or.inr (EE.1.trans hn)) (rC_ok C1 EE)
          · rw [List.getElem?_eq_none (by omega)]
            dsimp only
            refine Call.of (ls := [(0, vr (some c)), (1, vi (u : Int)), (2, vi (x : Int)), (3, vi (y : Int))]) vX11_selected.1 (Nat.le_of_ble_eq_true rfl) rfl ?_
            refine aw_aload_n dX11_selected_0 rfl ?_
            refine aw_iload_n dX11_selected_1 rfl ?_
            refine aw_invV_n dX11_selected_2 vX11_requirePlace kX11_156 rfl (c_rPlace (γ := γ) (h := h) hp c1) ⟨_, (by assumption), _, _, rfl⟩ rfl rfl (by decide) (by decide) (by decide) (Nat.le_of_ble_eq_true rfl) ?_
            refine aw_aload_n dX11_selected_5 rfl ?_
            refine aw_iload_n dX11_selected_6 rfl ?_
            refine aw_invV_n dX11_selected_7 vX11_requireNode kX11_66 rfl (c_rNode (γ := γ) hC hv c2) ⟨_, (by assumption), _, _, rfl⟩ rfl rfl (by decide) (by decide) (by decide) (Nat.le_of_ble_eq_true rfl) ?_
            refine aw_aload_n dX11_selected_10 rfl ?_
            refine aw_iload_n dX11_selected_11 rfl ?_
            refine aw_invV_n dX11_selected_12 vX11_requireNotNegative kX11_126 rfl (c_rNotNeg (γ := γ) (h := h) hi (by omega)) ⟨_, (by assumption), _, _, rfl⟩ rfl rfl (by decide) (by decide) (by decide) (Nat.le_of_ble_eq_true rfl) ?_
            refine aw_aload_n dX11_selected_15 rfl ?_
            refine aw_iload_n dX11_selected_16 rfl ?_
            refine aw_invV_n dX11_selected_17 vX11_requireQuery kX11_175 rfl (c_rQuery (γ := γ) hC hu d3) ⟨_, (by assumption), _, _, rfl⟩ rfl rfl (by decide) (by decide) (by decide) (Nat.le_of_ble_eq_true rfl) ?_
            refine aw_aload_n dX11_selected_20 rfl ?_
            refine aw_iload_n dX11_selected_21 rfl ?_
            refine aw_iload_n dX11_selected_22 rfl ?_
            refine aw_invV_e dX11_selected_23 vX11_selectedFrom kX11_193 rfl (c_selF (γ := γ) hC hu hx) ⟨_, (by assumption), _, _, rfl⟩ rfl rfl (by decide) (by decide) (by decide) (Nat.le_of_ble_eq_true rfl) (fun H1 hP9 => ?_)
            obtain ⟨C1, EE⟩ := hP9
            refine aw_lstore (ls1 := [(4, _), (0, _), (1, _), (2, _), (3, _)]) dX11_selected_26 (by decide) rfl ?_
            refine aw_iload_n dX11_selected_28 rfl ?_
            refine aw_lload dX11_selected_29 rfl ?_
            refine aw_invS_r dX11_selected_31 sJ13_bitCount_95d88 kX11_133 rfl (c_bcS (γ := γ) (selF T (qs u) x)) rfl rfl (by decide) (by decide) (by decide) (Nat.le_of_ble_eq_true rfl) ?_
            refine aw_ic_ge (tgt := 49) dX11_selected_34 rfl (by omega) (by omega) (fun c34 => ?_) (fun c34 => ?_)
            · refine aw_iconst dX11_selected_49 ?_
              exact aw_ireturn dX11_selected_50 rfl (Or.inr (EE.1.trans hn)) (rC_ok C1 EE)
            · exact absurd c34 (by omega)
    · rw [if_pos (fun z => c2 z.2)]
      refine Call.of (ls := [(0, vr (some c)), (1, vi p), (2, vi v), (3, vi i)]) vX11_selected.1 (Nat.le_of_ble_eq_true rfl) rfl ?_
      refine aw_aload_n dX11_selected_0 rfl ?_
      refine aw_iload_n dX11_selected_1 rfl ?_
      refine aw_invV_n dX11_selected_2 vX11_requirePlace kX11_156 rfl (c_rPlace (γ := γ) (h := h) hp c1) ⟨_, (by assumption), _, _, rfl⟩ rfl rfl (by decide) (by decide) (by decide) (Nat.le_of_ble_eq_true rfl) ?_
      refine aw_aload_n dX11_selected_5 rfl ?_
      refine aw_iload_n dX11_selected_6 rfl ?_
      exact aw_invV_x dX11_selected_7 vX11_requireNode kX11_66 rfl (c_rNode_x (γ := γ) hC hv hn c2) ⟨_, (by assumption), _, _, rfl⟩ rfl rfl (by decide) (by decide) (by decide) (Nat.le_of_ble_eq_true rfl) (rC_err hC (by decide) rfl)
  · rw [if_pos (fun z => c1 z.1)]
    refine Call.of (ls := [(0, vr (some c)), (1, vi p), (2, vi v), (3, vi i)]) vX11_selected.1 (Nat.le_of_ble_eq_true rfl) rfl ?_
    refine aw_aload_n dX11_selected_0 rfl ?_
    refine aw_iload_n dX11_selected_1 rfl ?_
    exact aw_invV_x dX11_selected_2 vX11_requirePlace kX11_156 rfl (c_rPlace_x (γ := γ) (h := h) hp hn c1) ⟨_, (by assumption), _, _, rfl⟩ rfl rfl (by decide) (by decide) (by decide) (Nat.le_of_ble_eq_true rfl) (rC_err hC (by decide) rfl)
theorem c_given {γ : GG} {h : AH} {c : Nat} {F : FS} {p pa st v : Int} (hC : isCl h c F) (hn : nx h = none) (hp : (-2147483648 ≤ p ∧ p ≤ 2147483647)) (hpa : (-2147483648 ≤ pa ∧ pa ≤ 2147483647)) (hst : (-2147483648 ≤ st ∧ st ≤ 2147483647)) (hv : (-2147483648 ≤ v ∧ v ≤ 2147483647)) : Call γ mX11_given 7 1 6 [vr (some c), vi p, vi pa, vi st, vi v] h (rC9 h c [xnIO, xnIS, xnIA] (opGiv F p pa st v)) := by
  obtain ⟨S, U, tx⟩ := F
  obtain ⟨T, qs⟩ := S
  have hC : isCl h c ((T, qs), U, tx) := hC
  obtain ⟨hkc, r0, r1, r2, r3, r4, r5, r6, r7, r8, hks, s0, s1, hkq, hkt⟩ := cl_f hC
  have hT : isTr h (c + 1 + 1) T := hC.2.1.2.1
  have oT : okTr T := hC.2.2.2.2.2.1.1
  have o9 := oT.o
  have n40 := o9.2.1
  have n1 := o9.1
  have gt0 : gi h (c + 1 + 1) 0 = (tn T : Int) := hT.2.1
  unfold opGiv
  dsimp only
  by_cases c1 : 0 ≤ p ∧ p ≤ 3
  · by_cases c2 : 0 ≤ v ∧ v < (tn T : Int)
    · rw [if_neg (fun z => z ⟨c1, c2⟩)]
      obtain ⟨u, rfl⟩ := Int.eq_ofNat_of_zero_le c1.1
      obtain ⟨x, rfl⟩ := Int.eq_ofNat_of_zero_le c2.1
      rw [Int.toNat_natCast, Int.toNat_natCast]
      have hu : u < 4 := by omega
      have hx : x < tn T := by omega
      by_cases d3 : qs u = []
      · rw [if_pos d3]
        refine Call.of (ls := [(0, vr (some c)), (1, vi (u : Int)), (2, vi pa), (3, vi st), (4, vi (x : Int))]) vX11_given.1 (Nat.le_of_ble_eq_true rfl) rfl ?_
        refine aw_aload_n dX11_given_0 rfl ?_
        refine aw_iload_n dX11_given_1 rfl ?_
        refine aw_invV_n dX11_given_2 vX11_requirePlace kX11_156 rfl (c_rPlace (γ := γ) (h := h) hp c1) ⟨_, (by assumption), _, _, rfl⟩ rfl rfl (by decide) (by decide) (by decide) (Nat.le_of_ble_eq_true rfl) ?_
        refine aw_aload_n dX11_given_5 rfl ?_
        refine aw_iload dX11_given_6 rfl ?_
        refine aw_invV_n dX11_given_8 vX11_requireNode kX11_66 rfl (c_rNode (γ := γ) hC hv c2) ⟨_, (by assumption), _, _, rfl⟩ rfl rfl (by decide) (by decide) (by decide) (Nat.le_of_ble_eq_true rfl) ?_
        refine aw_aload_n dX11_given_11 rfl ?_
        refine aw_iload_n dX11_given_12 rfl ?_
        exact aw_invV_x dX11_given_13 vX11_requireQuery kX11_175 rfl (c_rQuery_x (γ := γ) hC hu hn (fun z => z d3)) ⟨_, (by assumption), _, _, rfl⟩ rfl rfl (by decide) (by decide) (by decide) (Nat.le_of_ble_eq_true rfl) (rC_err hC (by decide) rfl)
      · rw [if_neg d3]
        obtain ⟨rq, π, ρ, hQ⟩ := cl_q hC hu
        have hQ : isQ h (c + 1 + 12 + 74 * u) π ρ (qs u) := hQ
        have oq : okQ (qs u) ∧ lnQ (qs u) := hC.2.2.2.2.2.1.2 u hu
        have hkq9 := hQ.1.1
        have hE : shE h (c + 1698) := hC.2.2.2.2.1.2.2.2.2.1
        have hke := hE.1
        have KP := c_prepare (γ := γ) hE hT oT hQ oq.1 (by omega) (by omega)
        have gl := hQ.2.1
        have q4 := oq.1.1
        by_cases d4 : 0 ≤ pa ∧ pa < ((qs u).length : Int)
        · obtain ⟨y, rfl⟩ := Int.eq_ofNat_of_zero_le d4.1
          obtain ⟨t, ht⟩ : ∃ t, (qs u)[y]? = some t := ⟨_, List.getElem?_eq_getElem (by omega)⟩
          have ot := oq.1.2 t (List.mem_of_getElem? ht)
          have o8 := ot.2.1
          have hPt := hQ.2.2.2 y t ht
          have rpa := hQ.1.2.2.2.2.1 y (by omega)
          have gpl := hPt.2.2.1
          have hkp := hPt.1.1
          have kqa := hQ.1.2.2.1
          have rqa := hQ.1.2.1
          by_cases d5 : 0 ≤ st ∧ st < (t.2.length : Int)
          · rw [if_neg (fun z => z ⟨d4.1, d5.1⟩)]
            obtain ⟨z, rfl⟩ := Int.eq_ofNat_of_zero_le d5.1
            obtain ⟨s, hs⟩ : ∃ s, t.2[z]? = some s := ⟨_, List.getElem?_eq_getElem (by omega)⟩
            have eg : giV T (qs u) ((y : Int)).toNat ((z : Int)).toNat x = some ((fb_ct (gvN T s x s.2.length) 40 : Nat) : Int) := by
              unfold giV
              rw [Int.toNat_natCast, Int.toNat_natCast, ht, Option.bind_some, hs]
              rfl
            rw [eg]
            dsimp only
            refine Call.of (ls := [(0, vr (some c)), (1, vi (u : Int)), (2, vi (y : Int)), (3, vi (z : Int)), (4, vi (x : Int))]) vX11_given.1 (Nat.le_of_ble_eq_true rfl) rfl ?_
            refine aw_aload_n dX11_given_0 rfl ?_
            refine aw_iload_n dX11_given_1 rfl ?_
            refine aw_invV_n dX11_given_2 vX11_requirePlace kX11_156 rfl (c_rPlace (γ := γ) (h := h) hp c1) ⟨_, (by assumption), _, _, rfl⟩ rfl rfl (by decide) (by decide) (by decide) (Nat.le_of_ble_eq_true rfl) ?_
            refine aw_aload_n dX11_given_5 rfl ?_
            refine aw_iload dX11_given_6 rfl ?_
            refine aw_invV_n dX11_given_8 vX11_requireNode kX11_66 rfl (c_rNode (γ := γ) hC hv c2) ⟨_, (by assumption), _, _, rfl⟩ rfl rfl (by decide) (by decide) (by decide) (Nat.le_of_ble_eq_true rfl) ?_
            refine aw_aload_n dX11_given_11 rfl ?_
            refine aw_iload_n dX11_given_12 rfl ?_
            refine aw_invV_n dX11_given_13 vX11_requireQuery kX11_175 rfl (c_rQuery (γ := γ) hC hu d3) ⟨_, (by assumption), _, _, rfl⟩ rfl rfl (by decide) (by decide) (by decide) (Nat.le_of_ble_eq_true rfl) ?_
            refine aw_aload_n dX11_given_16 rfl ?_
            refine aw_iload_n dX11_given_17 rfl ?_
            refine aw_aload_n dX11_given_18 rfl ?_
            refine aw_getr' (j := 0) dX11_given_19 fX11_12 rfl (by assumption) rfl (by assumption) ?_
            refine aw_getr' (j := 1) dX11_given_22 fX11_163 rfl (by assumption) rfl (by assumption) ?_
            refine aw_iload_n dX11_given_25 rfl ?_
            refine aw_aald5' dX11_given_26 (by assumption) (by omega) (by first | decide | omega) rq ?_
            refine aw_geti' (j := 0) dX11_given_27 fX11_174 rfl (by assumption) rfl gl ?_
            refine aw_invV_n dX11_given_30 vX11_requireBelow kX11_69 rfl (c_rBelow (γ := γ) (h := h) hpa (by omega) d4) ⟨_, (by assumption), _, _, rfl⟩ rfl rfl (by decide) (by decide) (by decide) (Nat.le_of_ble_eq_true rfl) ?_
            refine aw_aload_n dX11_given_33 rfl ?_
            refine aw_iload_n dX11_given_34 rfl ?_
            refine aw_aload_n dX11_given_35 rfl ?_
            refine aw_getr' (j := 0) dX11_given_36 fX11_12 rfl (by assumption) rfl (by assumption) ?_
            refine aw_getr' (j := 1) dX11_given_39 fX11_163 rfl (by assumption) rfl (by assumption) ?_
            refine aw_iload_n dX11_given_42 rfl ?_
            refine aw_aald5' dX11_given_43 (by assumption) (by omega) (by first | decide | omega) rq ?_
            refine aw_getr' (j := 1) dX11_given_44 fX11_199 rfl (by assumption) rfl (by assumption) ?_
            refine aw_iload_n dX11_given_47 rfl ?_
            refine aw_aald4' dX11_given_48 (by assumption) (by omega) (by first | decide | omega) rpa ?_
            refine aw_geti' (j := 1) dX11_given_49 fX11_203 rfl (by assumption) rfl gpl ?_
            refine aw_invV_n dX11_given_52 vX11_requireBelow kX11_69 rfl (c_rBelow (γ := γ) (h := h) hst (by omega) d5) ⟨_, (by assumption), _, _, rfl⟩ rfl rfl (by decide) (by decide) (by decide) (Nat.le_of_ble_eq_true rfl) ?_
            refine aw_aload_n dX11_given_55 rfl ?_
            refine aw_getr' (j := 7) dX11_given_56 fX11_59 rfl (by assumption) rfl (by assumption) ?_
            refine aw_aload_n dX11_given_59 rfl ?_
            refine aw_getr' (j := 0) dX11_given_60 fX11_12 rfl (by assumption) rfl (by assumption) ?_
            refine aw_getr' (j := 0) dX11_given_63 fX11_73 rfl (by assumption) rfl (by assumption) ?_
            refine aw_aload_n dX11_given_66 rfl ?_
            refine aw_getr' (j := 0) dX11_given_67 fX11_12 rfl (by assumption) rfl (by assumption) ?_
            refine aw_getr' (j := 1) dX11_given_70 fX11_163 rfl (by assumption) rfl (by assumption) ?_
            refine aw_iload_n dX11_given_73 rfl ?_
            refine aw_aald5' dX11_given_74 (by assumption) (by omega) (by first | decide | omega) rq ?_
            refine aw_invV_f dX11_given_75 vX1_prepare kX11_206 rfl (KP) ⟨_, (by assumption), _, _, rfl⟩ rfl rfl (by decide) (by decide) (by decide) (Nat.le_of_ble_eq_true rfl) (fun H1 hP9 => ?_)
            obtain ⟨E1, G1⟩ := hP9
            have C1 : isCl H1 c ((T, qs), U, tx) := hC.ev (Or.inl rfl) E1
            have EE := EV_O (c := c) (Or.inl rfl) E1
            obtain ⟨hkc', r0', r1', r2', r3', r4', r5', r6', r7', r8', hks', s0', s1', hkq', hkt'⟩ := cl_f C1
            obtain ⟨rq', -⟩ := cl_q C1 hu
            have hT1 : isTr H1 (c + 1 + 1) T := C1.2.1.2.1
            have hQ1 : isQ H1 (c + 1 + 12 + 74 * u) π ρ (qs u) := hQ.eq (fun b b1 b2 => E1.eqA (fun z => by unfold EV at z; omega))
            have hkq1 := hQ1.1.1
            have hE1 := E1.shE hE
            have hke1 := hE1.1
            have KG := c_givenBy (γ := γ) (p := y) (s := z) (v := x) (G := gvN T s x s.2.length) hE1 (by omega) (by omega) (by omega) (G1 y z t s ht hs (Or.inl (by omega)) x hx)
            refine aw_aload_n dX11_given_78 rfl ?_
            refine aw_getr' (j := 7) dX11_given_79 fX11_59 rfl (by assumption) rfl (by assumption) ?_
            refine aw_iload_n dX11_given_82 rfl ?_
            refine aw_iload_n dX11_given_83 rfl ?_
            refine aw_iload dX11_given_84 rfl ?_
            refine aw_invV_r dX11_given_86 vX1_givenBy kX11_210 rfl (KG) ⟨_, (by assumption), _, _, rfl⟩ rfl rfl (by decide) (by decide) (by decide) (Nat.le_of_ble_eq_true rfl) ?_
            refine aw_invS_r dX11_given_89 sJ13_bitCount_95d88 kX11_133 rfl (c_bcS (γ := γ) (gvN T s x s.2.length)) rfl rfl (by decide) (by decide) (by decide) (Nat.le_of_ble_eq_true rfl) ?_
            exact aw_ireturn dX11_given_92 rfl (Or.inr (EE.1.trans hn)) (rC_ok C1 EE)
          · have W : Call γ mX11_given 7 1 6 [vr (some c), vi (u : Int), vi (y : Int), vi st, vi (x : Int)] h (rC9 h c [xnIO, xnIS, xnIA] (3, 0, ((T, qs), U, tx))) := by
              refine Call.of (ls := [(0, vr (some c)), (1, vi (u : Int)), (2, vi (y : Int)), (3, vi st), (4, vi (x : Int))]) vX11_given.1 (Nat.le_of_ble_eq_true rfl) rfl ?_
              refine aw_aload_n dX11_given_0 rfl ?_
              refine aw_iload_n dX11_given_1 rfl ?_
              refine aw_invV_n dX11_given_2 vX11_requirePlace kX11_156 rfl (c_rPlace (γ := γ) (h := h) hp c1) ⟨_, (by assumption), _, _, rfl⟩ rfl rfl (by decide) (by decide) (by decide) (Nat.le_of_ble_eq_true rfl) ?_
              refine aw_aload_n dX11_given_5 rfl ?_
              refine aw_iload dX11_given_6 rfl ?_
              refine aw_invV_n dX11_given_8 vX11_requireNode kX11_66 rfl (c_rNode (γ := γ) hC hv c2) ⟨_, (by assumption), _, _, rfl⟩ rfl rfl (by decide) (by decide) (by decide) (Nat.le_of_ble_eq_true rfl) ?_
              refine aw_aload_n dX11_given_11 rfl ?_
              refine aw_iload_n dX11_given_12 rfl ?_
              refine aw_invV_n dX11_given_13 vX11_requireQuery kX11_175 rfl (c_rQuery (γ := γ) hC hu d3) ⟨_, (by assumption), _, _, rfl⟩ rfl rfl (by decide) (by decide) (by decide) (Nat.le_of_ble_eq_true rfl) ?_
              refine aw_aload_n dX11_given_16 rfl ?_
              refine aw_iload_n dX11_given_17 rfl ?_
              refine aw_aload_n dX11_given_18 rfl ?_
              refine aw_getr' (j := 0) dX11_given_19 fX11_12 rfl (by assumption) rfl (by assumption) ?_
              refine aw_getr' (j := 1) dX11_given_22 fX11_163 rfl (by assumption) rfl (by assumption) ?_
              refine aw_iload_n dX11_given_25 rfl ?_
              refine aw_aald5' dX11_given_26 (by assumption) (by omega) (by first | decide | omega) rq ?_
              refine aw_geti' (j := 0) dX11_given_27 fX11_174 rfl (by assumption) rfl gl ?_
              refine aw_invV_n dX11_given_30 vX11_requireBelow kX11_69 rfl (c_rBelow (γ := γ) (h := h) hpa (by omega) d4) ⟨_, (by assumption), _, _, rfl⟩ rfl rfl (by decide) (by decide) (by decide) (Nat.le_of_ble_eq_true rfl) ?_
              refine aw_aload_n dX11_given_33 rfl ?_
              refine aw_iload_n dX11_given_34 rfl ?_
              refine aw_aload_n dX11_given_35 rfl ?_
              refine aw_getr' (j := 0) dX11_given_36 fX11_12 rfl (by assumption) rfl (by assumption) ?_
              refine aw_getr' (j := 1) dX11_given_39 fX11_163 rfl (by assumption) rfl (by assumption) ?_
              refine aw_iload_n dX11_given_42 rfl ?_
              refine aw_aald5' dX11_given_43 (by assumption) (by omega) (by first | decide | omega) rq ?_
              refine aw_getr' (j := 1) dX11_given_44 fX11_199 rfl (by assumption) rfl (by assumption) ?_
              refine aw_iload_n dX11_given_47 rfl ?_
              refine aw_aald4' dX11_given_48 (by assumption) (by omega) (by first | decide | omega) rpa ?_
              refine aw_geti' (j := 1) dX11_given_49 fX11_203 rfl (by assumption) rfl gpl ?_
              exact aw_invV_x dX11_given_52 vX11_requireBelow kX11_69 rfl (c_rBelow_x (γ := γ) (h := h) hst (by omega) hn d5) ⟨_, (by assumption), _, _, rfl⟩ rfl rfl (by decide) (by decide) (by decide) (Nat.le_of_ble_eq_true rfl) (rC_err hC (by decide) rfl)
            by_cases z : 0 ≤ st
            · have eg : giV T (qs u) ((y : Int)).toNat st.toNat x = none := by
                unfold giV
                rw [Int.toNat_natCast, ht, Option.bind_some, List.getElem?_eq_none (by omega)]
                rfl
              rw [if_neg (fun y9 => y9 ⟨by omega, z⟩), eg]
              exact W
            · rw [if_pos (fun y9 => z y9.2)]
              exact W
        · have W : Call γ mX11_given 7 1 6 [vr (some c), vi (u : Int), vi pa, vi st, vi (x : Int)] h (rC9 h c [xnIO, xnIS, xnIA] (3, 0, ((T, qs), U, tx))) := by
            refine Call.of (ls := [(0, vr (some c)), (1, vi (u : Int)), (2, vi pa), (3, vi st), (4, vi (x : Int))]) vX11_given.1 (Nat.le_of_ble_eq_true rfl) rfl ?_
            refine aw_aload_n dX11_given_0 rfl ?_
            refine aw_iload_n dX11_given_1 rfl ?_
            refine aw_invV_n dX11_given_2 vX11_requirePlace kX11_156 rfl (c_rPlace (γ := γ) (h := h) hp c1) ⟨_, (by assumption), _, _, rfl⟩ rfl rfl (by decide) (by decide) (by decide) (Nat.le_of_ble_eq_true rfl) ?_
            refine aw_aload_n dX11_given_5 rfl ?_
            refine aw_iload dX11_given_6 rfl ?_
            refine aw_invV_n dX11_given_8 vX11_requireNode kX11_66 rfl (c_rNode (γ := γ) hC hv c2) ⟨_, (by assumption), _, _, rfl⟩ rfl rfl (by decide) (by decide) (by decide) (Nat.le_of_ble_eq_true rfl) ?_
            refine aw_aload_n dX11_given_11 rfl ?_
            refine aw_iload_n dX11_given_12 rfl ?_
            refine aw_invV_n dX11_given_13 vX11_requireQuery kX11_175 rfl (c_rQuery (γ := γ) hC hu d3) ⟨_, (by assumption), _, _, rfl⟩ rfl rfl (by decide) (by decide) (by decide) (Nat.le_of_ble_eq_true rfl) ?_
            refine aw_aload_n dX11_given_16 rfl ?_
            refine aw_iload_n dX11_given_17 rfl ?_
            refine aw_aload_n dX11_given_18 rfl ?_
            refine aw_getr' (j := 0) dX11_given_19 fX11_12 rfl (by assumption) rfl (by assumption) ?_
            refine aw_getr' (j := 1) dX11_given_22 fX11_163 rfl (by assumption) rfl (by assumption) ?_
            refine aw_iload_n dX11_given_25 rfl ?_
            refine aw_aald5' dX11_given_26 (by assumption) (by omega) (by first | decide | omega) rq ?_
            refine aw_geti' (j := 0) dX11_given_27 fX11_174 rfl (by assumption) rfl gl ?_
            exact aw_invV_x dX11_given_30 vX11_requireBelow kX11_69 rfl (c_rBelow_x (γ := γ) (h := h) hpa (by omega) hn d4) ⟨_, (by assumption), _, _, rfl⟩ rfl rfl (by decide) (by decide) (by decide) (Nat.le_of_ble_eq_true rfl) (rC_err hC (by decide) rfl)
          by_cases z : 0 ≤ pa ∧ 0 ≤ st
          · have eg : giV T (qs u) pa.toNat st.toNat x = none := by
              unfold giV
              rw [List.getElem?_eq_none (by omega)]
              rfl
            rw [if_neg (fun y9 => y9 z), eg]
            exact W
          · rw [if_pos z]
            exact W
    · rw [if_pos (fun z => c2 z.2)]
      refine Call.of (ls := [(0, vr (some c)), (1, vi p), (2, vi pa), (3, vi st), (4, vi v)]) vX11_given.1 (Nat.le_of_ble_eq_true rfl) rfl ?_
      refine aw_aload_n dX11_given_0 rfl ?_
      refine aw_iload_n dX11_given_1 rfl ?_
      refine aw_invV_n dX11_given_2 vX11_requirePlace kX11_156 rfl (c_rPlace (γ := γ) (h := h) hp c1) ⟨_, (by assumption), _, _, rfl⟩ rfl rfl (by decide) (by decide) (by decide) (Nat.le_of_ble_eq_true rfl) ?_
      refine aw_aload_n dX11_given_5 rfl ?_
      refine aw_iload dX11_given_6 rfl ?_
      exact aw_invV_x dX11_given_8 vX11_requireNode kX11_66 rfl (c_rNode_x (γ := γ) hC hv hn c2) ⟨_, (by assumption), _, _, rfl⟩ rfl rfl (by decide) (by decide) (by decide) (Nat.le_of_ble_eq_true rfl) (rC_err hC (by decide) rfl)
  · rw [if_pos (fun z => c1 z.1)]
    refine Call.of (ls := [(0, vr (some c)), (1, vi p), (2, vi pa), (3, vi st), (4, vi v)]) vX11_given.1 (Nat.le_of_ble_eq_true rfl) rfl ?_
    refine aw_aload_n dX11_given_0 rfl ?_
    refine aw_iload_n dX11_given_1 rfl ?_
    exact aw_invV_x dX11_given_2 vX11_requirePlace kX11_156 rfl (c_rPlace_x (γ := γ) (h := h) hp hn c1) ⟨_, (by assumption), _, _, rfl⟩ rfl rfl (by decide) (by decide) (by decide) (Nat.le_of_ble_eq_true rfl) (rC_err hC (by decide) rfl)
theorem allN_iff {p : Nat → Bool} : ∀ {n}, allN p n = true ↔ ∀ k, k < n → p k = true := by
  intro n
  induction n with
  | zero => simp [allN]
  | succ n ih =>
    simp only [allN, Bool.and_eq_true, ih]
    constructor
    · rintro ⟨h1, h2⟩ k hk
      by_cases z : k = n
      · subst z; exact h2
      · exact h1 k (by omega)
    · intro h
      exact ⟨fun k hk => h k (by omega), h n (by omega)⟩
theorem dif_eq {T : Tr} {q r : TQ} {k : Nat} : difS T q r k = false ↔ S9 (selF T q k) = S9 (selF T r k) := by
  unfold difS
  constructor
  · intro h
    refine S9_cong (fun j hj => ?_)
    have h : allN (fun k_1 => selF T q k k_1 == selF T r k k_1) 40 = true := by simpa using h
    have := allN_iff.mp h j hj
    simpa using this
  · intro h
    have e := S9_inj h
    have : allN (fun k_1 => selF T q k k_1 == selF T r k k_1) 40 = true := allN_iff.mpr (fun j hj => by rw [e j hj]; simp)
    rw [this]
    rfl
theorem l_cdf {γ : GG} {c u x : Nat} {F : FS} {h H : AH} {π πx : Nat → Nat} {ρ ρx : Nat → Nat → Nat} {Q : AR → AH → Prop} (hC : isCl H c F) (hu : u < 4) (hx : x < 4) (hQu : isQ H (c + 1 + 12 + 74 * u) π ρ (F.1.2 u)) (hQx : isQ H (c + 1 + 12 + 74 * x) πx ρx (F.1.2 x)) (g1 : gfD H (c + 1698) F.1.1 (F.1.2 u) (F.1.2 u).length 0) (g2 : gfD H (c + 1701) F.1.1 (F.1.2 x) (F.1.2 x).length 0) (kk : Q (.inl (some (vi ((fb_ct (difS F.1.1 (F.1.2 u) (F.1.2 x)) (tn F.1.1) : Nat) : Int)))) H) (hn : nx H = none) : ∀ (m k : Nat), k + m = tn F.1.1 → AW γ mX11_differences 7 1 6 71 [(4, vi (k : Int)), (3, vi ((fb_ct (difS F.1.1 (F.1.2 u) (F.1.2 x)) k : Nat) : Int)), (0, vr (some c)), (1, vi (u : Int)), (2, vi (x : Int))] [] H Q := by
  obtain ⟨S, U, tx⟩ := F
  obtain ⟨T, qs⟩ := S
  obtain ⟨hkc, r0, r1, r2, r3, r4, r5, r6, r7, r8, hks, s0, s1, hkq, hkt⟩ := cl_f hC
  have hT : isTr H (c + 1 + 1) T := hC.2.1.2.1
  have oT : okTr T := hC.2.2.2.2.2.1.1
  have n40 := oT.o.2.1
  have gt0 : gi H (c + 1 + 1) 0 = (tn T : Int) := hT.2.1
  obtain ⟨rqu, -⟩ := cl_q hC hu
  obtain ⟨rqx, -⟩ := cl_q hC hx
  have ou : okQ (qs u) := (hC.2.2.2.2.2.1.2 u hu).1
  have ox : okQ (qs x) := (hC.2.2.2.2.2.1.2 x hx).1
  have hE : shE H (c + 1698) := hC.2.2.2.2.1.2.2.2.2.1
  have hE2 : shE H (c + 1701) := hC.2.2.2.2.1.2.2.2.2.2
  have hke := hE.1
  have hke2 := hE2.1
  intro m
  induction m with
  | zero =>
    intro k hk
    have hk : k = tn T := hk
    subst hk
    refine aw_iload dX11_differences_71 rfl ?_
    refine aw_aload_n dX11_differences_73 rfl ?_
    refine aw_getr' (j := 0) dX11_differences_74 fX11_12 rfl (by assumption) rfl (by assumption) ?_
    refine aw_getr' (j := 0) dX11_differences_77 fX11_73 rfl (by assumption) rfl (by assumption) ?_
    refine aw_geti' (j := 0) dX11_differences_80 fX11_77 rfl (by assumption) rfl gt0 ?_
    refine aw_ic_ge (tgt := 135) dX11_differences_83 rfl (by omega) (by omega) (fun c83 => ?_) (fun c83 => ?_)
    · refine aw_iload_n dX11_differences_135 rfl ?_
      exact aw_ireturn dX11_differences_136 rfl (Or.inr hn) kk
    · exact absurd c83 (by omega)
  | succ m ih =>
    intro k hk
    have I := ih (k + 1) (by omega)
    rw [fb_ct_succ] at I
    have hk : k + (m + 1) = tn T := hk
    have K1 := c_selectFrom (γ := γ) (v := k) hE hQu ou n40 g1 (show k < tn T by omega)
    have K2 := c_selectFrom (γ := γ) (v := k) hE2 hQx ox n40 g2 (show k < tn T by omega)
    have K1 : Call γ mX1_selectFrom 3 0 0 [vr (some (c + 1698)), vr (some (c + 1 + 12 + 74 * u)), vi (k : Int)] H (rV (vl (S9 (selF T (qs u) k))) H) := K1
    have K2 : Call γ mX1_selectFrom 3 0 0 [vr (some (c + 1701)), vr (some (c + 1 + 12 + 74 * x)), vi (k : Int)] H (rV (vl (S9 (selF T (qs x) k))) H) := K2
    have I : AW γ mX11_differences 7 1 6 71 [(4, vi ((k + 1 : Nat) : Int)), (3, vi ((fb_ct (difS T (qs u) (qs x)) k + (if difS T (qs u) (qs x) k = true then 1 else 0) : Nat) : Int)), (0, vr (some c)), (1, vi (u : Int)), (2, vi (x : Int))] [] H Q := I
    refine aw_iload dX11_differences_71 rfl ?_
    refine aw_aload_n dX11_differences_73 rfl ?_
    refine aw_getr' (j := 0) dX11_differences_74 fX11_12 rfl (by assumption) rfl (by assumption) ?_
    refine aw_getr' (j := 0) dX11_differences_77 fX11_73 rfl (by assumption) rfl (by assumption) ?_
    refine aw_geti' (j := 0) dX11_differences_80 fX11_77 rfl (by assumption) rfl gt0 ?_
    refine aw_ic_ge (tgt := 135) dX11_differences_83 rfl (by omega) (by omega) (fun c83 => ?_) (fun c83 => ?_)
    · exact absurd c83 (by omega)
    · refine aw_aload_n dX11_differences_86 rfl ?_
      refine aw_getr' (j := 7) dX11_differences_87 fX11_59 rfl (by assumption) rfl (by assumption) ?_
      refine aw_aload_n dX11_differences_90 rfl ?_
      refine aw_getr' (j := 0) dX11_differences_91 fX11_12 rfl (by assumption) rfl (by assumption) ?_
      refine aw_getr' (j := 1) dX11_differences_94 fX11_163 rfl (by assumption) rfl (by assumption) ?_
      refine aw_iload_n dX11_differences_97 rfl ?_
      refine aw_aald5' dX11_differences_98 (by assumption) (by omega) (by first | decide | omega) rqu ?_
      refine aw_iload dX11_differences_99 rfl ?_
      refine aw_invV_r dX11_differences_101 vX1_selectFrom kX11_214 rfl (K1) ⟨_, (by assumption), _, _, rfl⟩ rfl rfl (by decide) (by decide) (by decide) (Nat.le_of_ble_eq_true rfl) ?_
      refine aw_aload_n dX11_differences_104 rfl ?_
      refine aw_getr' (j := 8) dX11_differences_105 fX11_63 rfl (by assumption) rfl (by assumption) ?_
      refine aw_aload_n dX11_differences_108 rfl ?_
      refine aw_getr' (j := 0) dX11_differences_109 fX11_12 rfl (by assumption) rfl (by assumption) ?_
      refine aw_getr' (j := 1) dX11_differences_112 fX11_163 rfl (by assumption) rfl (by assumption) ?_
      refine aw_iload_n dX11_differences_115 rfl ?_
      refine aw_aald5' dX11_differences_116 (by assumption) (by omega) (by first | decide | omega) rqx ?_
      refine aw_iload dX11_differences_117 rfl ?_
      refine aw_invV_r dX11_differences_119 vX1_selectFrom kX11_214 rfl (K2) ⟨_, (by assumption), _, _, rfl⟩ rfl rfl (by decide) (by decide) (by decide) (Nat.le_of_ble_eq_true rfl) ?_
      refine aw_lcmp dX11_differences_122 (fun c122 => ?_) (fun z122 hz122 c122 => ?_)
      · first
          | (refine aw_if_eq (tgt := 129) dX11_differences_123 rfl (by omega) (fun c123 => ?_) (fun c123 => ?_)
             · have hd := dif_eq.mpr (by assumption : S9 (selF T (qs u) k) = S9 (selF T (qs x) k))
               rw [hd, if_neg (by decide), Nat.add_zero] at I
               refine aw_iinc (k9 := 0) (ls1 := [(4, _), (3, _), (0, _), (1, _), (2, _)]) dX11_differences_129 rfl (by decide) rfl ?_
               refine aw_goto (tgt := 71) dX11_differences_132 rfl ?_
               refine aw_sub [0, 1, 2, 3, 4] rfl ?_
               exact I
             · exact absurd c123 (by omega))
          | (refine aw_if_eq (tgt := 129) dX11_differences_123 rfl (by omega) (fun c123 => ?_) (fun c123 => ?_)
             · exact absurd c123 (by omega)
             · have hd : difS T (qs u) (qs x) k = true := by
                 cases q : difS T (qs u) (qs x) k with
                 | true => rfl
                 | false => exact absurd (dif_eq.mp q) (by assumption)
               rw [hd, if_pos rfl] at I
               refine aw_iinc (k9 := 1) (ls1 := [(3, _), (4, _), (0, _), (1, _), (2, _)]) dX11_differences_126 rfl (by decide) rfl ?_
               refine aw_iinc (k9 := 1) (ls1 := [(4, _), (3, _), (0, _), (1, _), (2, _)]) dX11_differences_129 rfl (by decide) rfl ?_
               refine aw_goto (tgt := 71) dX11_differences_132 rfl ?_
               refine aw_sub [0, 1, 2, 3, 4] rfl ?_
               exact I)
      · first
          | (refine aw_if_eq (tgt := 129) dX11_differences_123 rfl (by omega) (fun c123 => ?_) (fun c123 => ?_)
             · have hd := dif_eq.mpr (by assumption : S9 (selF T (qs u) k) = S9 (selF T (qs x) k))
               rw [hd, if_neg (by decide), Nat.add_zero] at I
               refine aw_iinc (k9 := 0) (ls1 := [(4, _), (3, _), (0, _), (1, _), (2, _)]) dX11_differences_129 rfl (by decide) rfl ?_
               refine aw_goto (tgt := 71) dX11_differences_132 rfl ?_
               refine aw_sub [0, 1, 2, 3, 4] rfl ?_
               exact I
             · exact absurd c123 (by omega))
          | (refine aw_if_eq (tgt := 129) dX11_differences_123 rfl (by omega) (fun c123 => ?_) (fun c123 => ?_)
             · exact absurd c123 (by omega)
             · have hd : difS T (qs u) (qs x) k = true := by
                 cases q : difS T (qs u) (qs x) k with
                 | true => rfl
                 | false => exact absurd (dif_eq.mp q) (by assumption)
               rw [hd, if_pos rfl] at I
               refine aw_iinc (k9 := 1) (ls1 := [(3, _), (4, _), (0, _), (1, _), (2, _)]) dX11_differences_126 rfl (by decide) rfl ?_
               refine aw_iinc (k9 := 1) (ls1 := [(4, _), (3, _), (0, _), (1, _), (2, _)]) dX11_differences_129 rfl (by decide) rfl ?_
               refine aw_goto (tgt := 71) dX11_differences_132 rfl ?_
               refine aw_sub [0, 1, 2, 3, 4] rfl ?_
               exact I)
theorem c_differences {γ : GG} {h : AH} {c : Nat} {F : FS} {p r : Int} (hC : isCl h c F) (hn : nx h = none) (hp : (-2147483648 ≤ p ∧ p ≤ 2147483647)) (hr : (-2147483648 ≤ r ∧ r ≤ 2147483647)) : Call γ mX11_differences 7 1 6 [vr (some c), vi p, vi r] h (rC9 h c [xnIO, xnIS] (opDif F p r)) := by
  obtain ⟨S, U, tx⟩ := F
  obtain ⟨T, qs⟩ := S
  have hC : isCl h c ((T, qs), U, tx) := hC
  obtain ⟨hkc, r0, r1, r2, r3, r4, r5, r6, r7, r8, hks, s0, s1, hkq, hkt⟩ := cl_f hC
  have hT : isTr h (c + 1 + 1) T := hC.2.1.2.1
  have oT : okTr T := hC.2.2.2.2.2.1.1
  have o9 := oT.o
  have n40 := o9.2.1
  have n1 := o9.1
  have gt0 : gi h (c + 1 + 1) 0 = (tn T : Int) := hT.2.1
  unfold opDif
  dsimp only
  by_cases c1 : 0 ≤ p ∧ p ≤ 3
  · by_cases c2 : 0 ≤ r ∧ r ≤ 3
    · rw [if_neg (fun z => z ⟨c1, c2⟩)]
      obtain ⟨u, rfl⟩ := Int.eq_ofNat_of_zero_le c1.1
      obtain ⟨x, rfl⟩ := Int.eq_ofNat_of_zero_le c2.1
      rw [Int.toNat_natCast, Int.toNat_natCast]
      have hu : u < 4 := by omega
      have hx : x < 4 := by omega
      by_cases d3 : qs u = []
      · rw [if_pos (Or.inl d3)]
        refine Call.of (ls := [(0, vr (some c)), (1, vi (u : Int)), (2, vi (x : Int))]) vX11_differences.1 (Nat.le_of_ble_eq_true rfl) rfl ?_
        refine aw_aload_n dX11_differences_0 rfl ?_
        refine aw_iload_n dX11_differences_1 rfl ?_
        refine aw_invV_n dX11_differences_2 vX11_requirePlace kX11_156 rfl (c_rPlace (γ := γ) (h := h) hp c1) ⟨_, (by assumption), _, _, rfl⟩ rfl rfl (by decide) (by decide) (by decide) (Nat.le_of_ble_eq_true rfl) ?_
        refine aw_aload_n dX11_differences_5 rfl ?_
        refine aw_iload_n dX11_differences_6 rfl ?_
        refine aw_invV_n dX11_differences_7 vX11_requirePlace kX11_156 rfl (c_rPlace (γ := γ) (h := h) hr c2) ⟨_, (by assumption), _, _, rfl⟩ rfl rfl (by decide) (by decide) (by decide) (Nat.le_of_ble_eq_true rfl) ?_
        refine aw_aload_n dX11_differences_10 rfl ?_
        refine aw_iload_n dX11_differences_11 rfl ?_
        exact aw_invV_x dX11_differences_12 vX11_requireQuery kX11_175 rfl (c_rQuery_x (γ := γ) hC hu hn (fun z => z d3)) ⟨_, (by assumption), _, _, rfl⟩ rfl rfl (by decide) (by decide) (by decide) (Nat.le_of_ble_eq_true rfl) (rC_err hC (by decide) rfl)
      · by_cases d4 : qs x = []
        · rw [if_pos (Or.inr d4)]
          refine Call.of (ls := [(0, vr (some c)), (1, vi (u : Int)), (2, vi (x : Int))]) vX11_differences.1 (Nat.le_of_ble_eq_true rfl) rfl ?_
          refine aw_aload_n dX11_differences_0 rfl ?_
          refine aw_iload_n dX11_differences_1 rfl ?_
          refine aw_invV_n dX11_differences_2 vX11_requirePlace kX11_156 rfl (c_rPlace (γ := γ) (h := h) hp c1) ⟨_, (by assumption), _, _, rfl⟩ rfl rfl (by decide) (by decide) (by decide) (Nat.le_of_ble_eq_true rfl) ?_
          refine aw_aload_n dX11_differences_5 rfl ?_
          refine aw_iload_n dX11_differences_6 rfl ?_
          refine aw_invV_n dX11_differences_7 vX11_requirePlace kX11_156 rfl (c_rPlace (γ := γ) (h := h) hr c2) ⟨_, (by assumption), _, _, rfl⟩ rfl rfl (by decide) (by decide) (by decide) (Nat.le_of_ble_eq_true rfl) ?_
          refine aw_aload_n dX11_differences_10 rfl ?_
          refine aw_iload_n dX11_differences_11 rfl ?_
          refine aw_invV_n dX11_differences_12 vX11_requireQuery kX11_175 rfl (c_rQuery (γ := γ) hC hu d3) ⟨_, (by assumption), _, _, rfl⟩ rfl rfl (by decide) (by decide) (by decide) (Nat.le_of_ble_eq_true rfl) ?_
          refine aw_aload_n dX11_differences_15 rfl ?_
          refine aw_iload_n dX11_differences_16 rfl ?_
          exact aw_invV_x dX11_differences_17 vX11_requireQuery kX11_175 rfl (c_rQuery_x (γ := γ) hC hx hn (fun z => z d4)) ⟨_, (by assumption), _, _, rfl⟩ rfl rfl (by decide) (by decide) (by decide) (Nat.le_of_ble_eq_true rfl) (rC_err hC (by decide) rfl)
        · rw [if_neg (fun z => z.elim d3 d4)]
          obtain ⟨rq, π, ρ, hQ⟩ := cl_q hC hu
          have hQ : isQ h (c + 1 + 12 + 74 * u) π ρ (qs u) := hQ
          have oq : okQ (qs u) ∧ lnQ (qs u) := hC.2.2.2.2.2.1.2 u hu
          have hkq9 := hQ.1.1
          have hE : shE h (c + 1698) := hC.2.2.2.2.1.2.2.2.2.1
          have hke := hE.1
          have KP := c_prepare (γ := γ) hE hT oT hQ oq.1 (by omega) (by omega)
          obtain ⟨-, πx, ρx, hQx⟩ := cl_q hC hx
          have hQx : isQ h (c + 1 + 12 + 74 * x) πx ρx (qs x) := hQx
          have ox : okQ (qs x) := (hC.2.2.2.2.2.1.2 x hx).1
          refine Call.of (ls := [(0, vr (some c)), (1, vi (u : Int)), (2, vi (x : Int))]) vX11_differences.1 (Nat.le_of_ble_eq_true rfl) rfl ?_
          refine aw_aload_n dX11_differences_0 rfl ?_
          refine aw_iload_n dX11_differences_1 rfl ?_
          refine aw_invV_n dX11_differences_2 vX11_requirePlace kX11_156 rfl (c_rPlace (γ := γ) (h := h) hp c1) ⟨_, (by assumption), _, _, rfl⟩ rfl rfl (by decide) (by decide) (by decide) (Nat.le_of_ble_eq_true rfl) ?_
          refine aw_aload_n dX11_differences_5 rfl ?_
          refine aw_iload_n dX11_differences_6 rfl ?_
          refine aw_invV_n dX11_differences_7 vX11_requirePlace kX11_156 rfl (c_rPlace (γ := γ) (h := h) hr c2) ⟨_, (by assumption), _, _, rfl⟩ rfl rfl (by decide) (by decide) (by decide) (Nat.le_of_ble_eq_true rfl) ?_
          refine aw_aload_n dX11_differences_10 rfl ?_
          refine aw_iload_n dX11_differences_11 rfl ?_
          refine aw_invV_n dX11_differences_12 vX11_requireQuery kX11_175 rfl (c_rQuery (γ := γ) hC hu d3) ⟨_, (by assumption), _, _, rfl⟩ rfl rfl (by decide) (by decide) (by decide) (Nat.le_of_ble_eq_true rfl) ?_
          refine aw_aload_n dX11_differences_15 rfl ?_
          refine aw_iload_n dX11_differences_16 rfl ?_
          refine aw_invV_n dX11_differences_17 vX11_requireQuery kX11_175 rfl (c_rQuery (γ := γ) hC hx d4) ⟨_, (by assumption), _, _, rfl⟩ rfl rfl (by decide) (by decide) (by decide) (Nat.le_of_ble_eq_true rfl) ?_
          refine aw_aload_n dX11_differences_20 rfl ?_
          refine aw_getr' (j := 7) dX11_differences_21 fX11_59 rfl (by assumption) rfl (by assumption) ?_
          refine aw_aload_n dX11_differences_24 rfl ?_
          refine aw_getr' (j := 0) dX11_differences_25 fX11_12 rfl (by assumption) rfl (by assumption) ?_
          refine aw_getr' (j := 0) dX11_differences_28 fX11_73 rfl (by assumption) rfl (by assumption) ?_
          refine aw_aload_n dX11_differences_31 rfl ?_
          refine aw_getr' (j := 0) dX11_differences_32 fX11_12 rfl (by assumption) rfl (by assumption) ?_
          refine aw_getr' (j := 1) dX11_differences_35 fX11_163 rfl (by assumption) rfl (by assumption) ?_
          refine aw_iload_n dX11_differences_38 rfl ?_
          refine aw_aald5' dX11_differences_39 (by assumption) (by omega) (by first | decide | omega) rq ?_
          refine aw_invV_f dX11_differences_40 vX1_prepare kX11_206 rfl (KP) ⟨_, (by assumption), _, _, rfl⟩ rfl rfl (by decide) (by decide) (by decide) (Nat.le_of_ble_eq_true rfl) (fun H1 hP9 => ?_)
          obtain ⟨E1, G1⟩ := hP9
          have C1 : isCl H1 c ((T, qs), U, tx) := hC.ev (Or.inl rfl) E1
          have EE := EV_O (c := c) (Or.inl rfl) E1
          obtain ⟨hkc', r0', r1', r2', r3', r4', r5', r6', r7', r8', hks', s0', s1', hkq', hkt'⟩ := cl_f C1
          obtain ⟨rq', -⟩ := cl_q C1 hu
          have hT1 : isTr H1 (c + 1 + 1) T := C1.2.1.2.1
          have hQ1 : isQ H1 (c + 1 + 12 + 74 * u) π ρ (qs u) := hQ.eq (fun b b1 b2 => E1.eqA (fun z => by unfold EV at z; omega))
          have hkq1 := hQ1.1.1
          have hE1 := E1.shE hE
          have hke1 := hE1.1
          have hQx1 : isQ H1 (c + 1 + 12 + 74 * x) πx ρx (qs x) := hQx.eq (fun b b1 b2 => E1.eqA (fun z => by unfold EV at z; omega))
          obtain ⟨rqx, -⟩ := cl_q C1 hx
          have hE9 : shE H1 (c + 1701) := C1.2.2.2.2.1.2.2.2.2.2
          have hke9 := hE9.1
          have hkx1 := hQx1.1.1
          have KP2 := c_prepare (γ := γ) hE9 hT1 oT hQx1 ox (by omega) (by omega)
          refine aw_aload_n dX11_differences_43 rfl ?_
          refine aw_getr' (j := 8) dX11_differences_44 fX11_63 rfl (by assumption) rfl (by assumption) ?_
          refine aw_aload_n dX11_differences_47 rfl ?_
          refine aw_getr' (j := 0) dX11_differences_48 fX11_12 rfl (by assumption) rfl (by assumption) ?_
          refine aw_getr' (j := 0) dX11_differences_51 fX11_73 rfl (by assumption) rfl (by assumption) ?_
          refine aw_aload_n dX11_differences_54 rfl ?_
          refine aw_getr' (j := 0) dX11_differences_55 fX11_12 rfl (by assumption) rfl (by assumption) ?_
          refine aw_getr' (j := 1) dX11_differences_58 fX11_163 rfl (by assumption) rfl (by assumption) ?_
          refine aw_iload_n dX11_differences_61 rfl ?_
          refine aw_aald5' dX11_differences_62 (by assumption) (by omega) (by first | decide | omega) rqx ?_
          refine aw_invV_f dX11_differences_63 vX1_prepare kX11_206 rfl (KP2) ⟨_, (by assumption), _, _, rfl⟩ rfl rfl (by decide) (by decide) (by decide) (Nat.le_of_ble_eq_true rfl) (fun H2 hP9 => ?_)
          obtain ⟨E2, G2⟩ := hP9
          have C2 : isCl H2 c ((T, qs), U, tx) := C1.ev (Or.inr rfl) E2
          have EE2 := EE.tr (EV_O (c := c) (Or.inr rfl) E2)
          have L := l_cdf (γ := γ) (h := h) (Q := rC9 h c [xnIO, xnIS] (0, ((fb_ct (difS T (qs u) (qs x)) (tn T) : Nat) : Int), ((T, qs), U, tx))) C2 hu hx (hQ1.eq (fun b b1 b2 => E2.eqA (fun z => by unfold EV at z; omega))) (hQx1.eq (fun b b1 b2 => E2.eqA (fun z => by unfold EV at z; omega))) (fun p9 s9 t9 st9 a1 a2 a3 y9 a4 => ((E2.eqA (b := c + 1698 + 1) (fun z => by unfold EV at z; omega)).2 _).2.1.trans (G1 p9 s9 t9 st9 a1 a2 a3 y9 a4)) G2 (rC_ok C2 EE2) (EE2.1.trans hn) (tn T) 0 (Nat.zero_add _)
          refine aw_iconst dX11_differences_66 ?_
          refine aw_istore_n (ls1 := [(3, _), (0, _), (1, _), (2, _)]) dX11_differences_67 (by decide) rfl ?_
          refine aw_iconst dX11_differences_68 ?_
          refine aw_istore (ls1 := [(4, _), (3, _), (0, _), (1, _), (2, _)]) dX11_differences_69 (by decide) rfl ?_
          refine aw_sub [0, 1, 2, 3, 4] rfl ?_
          exact L
    · rw [if_pos (fun z => c2 z.2)]
      refine Call.of (ls := [(0, vr (some c)), (1, vi p), (2, vi r)]) vX11_differences.1 (Nat.le_of_ble_eq_true rfl) rfl ?_
      refine aw_aload_n dX11_differences_0 rfl ?_
      refine aw_iload_n dX11_differences_1 rfl ?_
      refine aw_invV_n dX11_differences_2 vX11_requirePlace kX11_156 rfl (c_rPlace (γ := γ) (h := h) hp c1) ⟨_, (by assumption), _, _, rfl⟩ rfl rfl (by decide) (by decide) (by decide) (Nat.le_of_ble_eq_true rfl) ?_
      refine aw_aload_n dX11_differences_5 rfl ?_
      refine aw_iload_n dX11_differences_6 rfl ?_
      exact aw_invV_x dX11_differences_7 vX11_requirePlace kX11_156 rfl (c_rPlace_x (γ := γ) (h := h) hr hn c2) ⟨_, (by assumption), _, _, rfl⟩ rfl rfl (by decide) (by decide) (by decide) (Nat.le_of_ble_eq_true rfl) (rC_err hC (by decide) rfl)
  · rw [if_pos (fun z => c1 z.1)]
    refine Call.of (ls := [(0, vr (some c)), (1, vi p), (2, vi r)]) vX11_differences.1 (Nat.le_of_ble_eq_true rfl) rfl ?_
    refine aw_aload_n dX11_differences_0 rfl ?_
    refine aw_iload_n dX11_differences_1 rfl ?_
    exact aw_invV_x dX11_differences_2 vX11_requirePlace kX11_156 rfl (c_rPlace_x (γ := γ) (h := h) hp hn c1) ⟨_, (by assumption), _, _, rfl⟩ rfl rfl (by decide) (by decide) (by decide) (Nat.le_of_ble_eq_true rfl) (rC_err hC (by decide) rfl)
