/-! ===== the outer class: read, drop, undo, unite, rewrite, uses ===== -/
theorem ln_runP : ∀ (m k : Nat) (q : TQ) (u : Nat → Int), lnQ q → lnQ (runP m k q u).1 := by
  intro m
  induction m with
  | zero => intro k q u h; exact h
  | succ m ih =>
    intro k q u h
    simp only [runP]
    cases hk : q[k]? with
    | none => exact h
    | some t =>
      refine ih _ _ _ (fun x hx => ?_)
      rcases List.mem_or_eq_of_mem_set hx with z | z
      · exact h x z
      · rw [z]; exact Nat.le_trans (wT_rwT t) (h t (List.mem_of_getElem? hk))
theorem ln_rmD : ∀ (p : Nat) (q : TQ) (u : Nat → Int), lnQ q → lnQ (rmD p q u).1 := by
  intro p
  induction p with
  | zero => intro q u h; exact h
  | succ p ih =>
    intro q u h
    simp only [rmD]
    cases hk : q[p + 1]? with
    | none => exact h
    | some t =>
      dsimp only
      split
      · exact ih _ _ (fun x hx => h x (List.mem_of_mem_eraseIdx hx))
      · exact ih _ _ h
theorem ln_rwQ {q : TQ} (h : lnQ q) : lnQ (rwQ q).1 := ln_rmD _ _ _ (ln_runP _ _ _ _ h)
theorem c_sav {γ : GG} {h : AH} {c : Nat} {F : FS} (hC : isCl h c F) : Call γ mX2_push 6 0 0 [vr (some (c + 309)), vr (some (c + 1))] h (rF (fun h' => isCl h' c (F.1, psh F.2.1 F.1, F.2.2) ∧ eqO h h' (c + 309) (c + 309 + 1234))) := by
  refine Call.mono (fun r h' hq => ?_) (c_push (γ := γ) hC.2.2.1 hC.2.1 hC.2.2.2.2.2.1.1.2.1 (by omega))
  obtain ⟨q1, q2, q3⟩ := hq
  have o := hC.2.2.2.2.2
  exact ⟨q1, hC.hi q3 q2 (by have := psh_len F.2.1 F.1 o.2.1; omega) (psh_ok o.1 o.2.2.1), q3⟩
theorem isWk.pa {h h' : AH} {c : Nat} (s : isWk h c) (e : eqO h h' (c + 1621) (c + 1621 + 75)) (hZ : ∃ π ρ, shZ h' (c + 1621) π ρ) : isWk h' c := by
  obtain ⟨h1, ⟨π, ρ, h2⟩, -, h4, h5, h6⟩ := s
  exact ⟨isTx_eq h1 (fun b b1 b2 => e.2 b (by omega)), ⟨π, ρ, h2.eq (fun b b1 b2 => e.2 b (by omega))⟩, hZ, h4.eq (fun b b1 b2 => e.2 b (by omega)), shE_eq h5 (fun b b1 b2 => e.2 b (by omega)), shE_eq h6 (fun b b1 b2 => e.2 b (by omega))⟩
theorem isWk.dr {h h' : AH} {c : Nat} (s : isWk h c) (e : eqO h h' (c + 1547) (c + 1547 + 74)) (hQ : ∃ π ρ, shQ h' (c + 1547) π ρ) : isWk h' c := by
  obtain ⟨h1, -, ⟨π, ρ, h3⟩, h4, h5, h6⟩ := s
  exact ⟨isTx_eq h1 (fun b b1 b2 => e.2 b (by omega)), hQ, ⟨π, ρ, shZ_eq h3 (fun b b1 b2 => e.2 b (by omega))⟩, h4.eq (fun b b1 b2 => e.2 b (by omega)), shE_eq h5 (fun b b1 b2 => e.2 b (by omega)), shE_eq h6 (fun b b1 b2 => e.2 b (by omega))⟩
theorem isWk.du {h h' : AH} {c : Nat} (s : isWk h c) (e : fr2 h h' (c + 1547) (c + 1696)) (hQ : ∃ π ρ, shQ h' (c + 1547) π ρ) (hU : shU9 h' (c + 1696)) : isWk h' c := by
  obtain ⟨h1, -, ⟨π, ρ, h3⟩, h4, h5, h6⟩ := s
  exact ⟨isTx_eq h1 (fun b b1 b2 => e.2 b (by omega) (by omega)), hQ, ⟨π, ρ, shZ_eq h3 (fun b b1 b2 => e.2 b (by omega) (by omega))⟩, hU, shE_eq h5 (fun b b1 b2 => e.2 b (by omega) (by omega)), shE_eq h6 (fun b b1 b2 => e.2 b (by omega) (by omega))⟩
theorem isCl.qw {h h' : AH} {c p : Nat} {π : Nat → Nat} {ρ : Nat → Nat → Nat} {F : FS} {q : TQ} (s : isCl h c F) (hp : p < 4) (e : fr2 h h' (c + 1 + 12 + 74 * p) (c + 1696)) (hU : shU9 h' (c + 1696)) (hQ : isQ h' (c + 1 + 12 + 74 * p) π ρ q) (ho : okQ q) (hw : lnQ q) : isCl h' c (upQ F.1 p q, F.2) := by
  obtain ⟨h1, h2, h3, h4, ⟨w1, ⟨π1, ρ1, w2⟩, ⟨π2, ρ2, w3⟩, -, w5, w6⟩, ⟨o1, o5⟩, o2, o3, o4⟩ := s
  have e2 : ∀ b, c ≤ b → b < c + 1697 → (b < c + 1 + 12 + 74 * p ∨ c + 1 + 12 + 74 * p + 74 ≤ b) → eqA h h' b := fun b b1 b2 b3 => e.2 b b3 (by omega)
  obtain ⟨⟨k1, k2, k3, k4, k5, k6⟩, k7, k8⟩ := h2
  refine ⟨h1.eq (e2 c (by omega) (by omega) (by omega)), ⟨⟨(e2 (c + 1) (by omega) (by omega) (by omega)).e.trans k1, ((e2 (c + 1) (by omega) (by omega) (by omega)).r 0).trans k2, ((e2 (c + 1) (by omega) (by omega) (by omega)).r 1).trans k3, (e2 (c + 1 + 11) (by omega) (by omega) (by omega)).e.trans k4, k5.eq (fun b b1 b2 => e2 b (by omega) (by omega) (by omega)), fun j hj => ?_⟩, k7.eq (fun b b1 b2 => e2 b (by omega) (by omega) (by omega)), fun j hj => ?_⟩, h3.eq (fun b b1 b2 => e2 b (by omega) (by omega) (by omega)), h4.eq (fun b b1 b2 => e2 b (by omega) (by omega) (by omega)), ⟨isTx_eq w1 (fun b b1 b2 => e2 b (by omega) (by omega) (by omega)), ⟨π1, ρ1, w2.eq (fun b b1 b2 => e2 b (by omega) (by omega) (by omega))⟩, ⟨π2, ρ2, shZ_eq w3 (fun b b1 b2 => e2 b (by omega) (by omega) (by omega))⟩, hU, shE_eq w5 (fun b b1 b2 => e.2 b (by omega) (by omega)), shE_eq w6 (fun b b1 b2 => e.2 b (by omega) (by omega))⟩, ⟨o1, fun j hj => ?_⟩, o2, o3, o4⟩
  · obtain ⟨a1, a2⟩ := k6 j hj
    refine ⟨((e2 (c + 1 + 11) (by omega) (by omega) (by omega)).r j).trans a1, ?_⟩
    by_cases z : j = p
    · subst z; exact ⟨π, ρ, hQ.1⟩
    · obtain ⟨π3, ρ3, a2⟩ := a2
      exact ⟨π3, ρ3, a2.eq (fun b b1 b2 => e2 b (by omega) (by omega) (by omega))⟩
  · by_cases z : j = p
    · subst z
      refine ⟨π, ρ, ?_⟩
      show isQ h' _ π ρ (if j = j then q else F.1.2 j)
      rw [if_pos rfl]
      exact hQ
    · obtain ⟨π3, ρ3, a2⟩ := k8 j hj
      refine ⟨π3, ρ3, ?_⟩
      show isQ h' _ π3 ρ3 (if j = p then q else F.1.2 j)
      rw [if_neg z]
      exact a2.eq (fun b b1 b2 => e2 b (by omega) (by omega) (by omega))
  · show okQ (if j = p then q else F.1.2 j) ∧ lnQ (if j = p then q else F.1.2 j)
    by_cases z : j = p
    · rw [if_pos z]; exact ⟨ho, hw⟩
    · rw [if_neg z]; exact o5 j hj
theorem fr2.O {h h' : AH} {c b : Nat} (e : fr2 h h' b (c + 1696)) (h1 : c ≤ b) (h2 : b + 74 ≤ c + 1704) : eqO h h' c (c + 1704) := ⟨e.1, fun x hx => e.2 x (by omega) (by omega)⟩
theorem shU9.U {h : AH} {u : Nat} (s : shU9 h u) : isU h u (fun j => gi h (u + 1) j) := ⟨s.1, s.2.1, s.2.2, fun j _ _ => rfl⟩
theorem isU.s {h : AH} {u : Nat} {x : Nat → Int} (s : isU h u x) : shU9 h u := ⟨s.1, s.2.1, s.2.2.1⟩
theorem flt_bd {f : Nat → Nat} (hf : ∀ k, f k < 128) : ∀ (m k : Nat) (z : PS), True → -1 ≤ (flt f m k z).1 ∧ (flt f m k z).1 ≤ ((k + m : Nat) : Int) := by
  intro m
  induction m with
  | zero =>
    intro k z _
    have e : flt f 0 k z = if z.1 = 4 then (-1, z) else ((k : Int), z) := rfl
    rw [e]
    split <;> constructor <;> dsimp only <;> omega
  | succ m ih =>
    intro k z _
    have e : flt f (m + 1) k z = match acc (f k) z with
      | none => ((k : Int), z)
      | some z' => flt f m (k + 1) z' := rfl
    rw [e]
    cases q : acc (f k) z with
    | none => constructor <;> dsimp only <;> omega
    | some z' =>
      have := ih (k + 1) z' trivial
      constructor
      · exact this.1
      · have := this.2
        dsimp only
        omega
theorem c_read {γ : GG} {h : AH} {c : Nat} {F : FS} {p : Int} (hC : isCl h c F) (hn : nx h = none) (hp : (-2147483648 ≤ p ∧ p ≤ 2147483647)) : Call γ mX11_read 8 1 6 [vr (some c), vi p] h (rC9 h c [xnIO] (opRd F p)) := by
  obtain ⟨S, U, tx⟩ := F
  obtain ⟨T, qs⟩ := S
  have hC : isCl h c ((T, qs), U, tx) := hC
  obtain ⟨hkc, r0, r1, r2, r3, r4, r5, r6, r7, r8, hks, s0, s1, hkq, hkt⟩ := cl_f hC
  have hT : isTr h (c + 1 + 1) T := hC.2.1.2.1
  have oT : okTr T := hC.2.2.2.2.2.1.1
  have o9 := oT.o
  have n40 := o9.2.1
  have n1 := o9.1
  have gt0 : gi h (c + 1 + 1) 0 = (tn T : Int) := hT.2.1
  unfold opRd
  dsimp only
  have hkh : kd h (c + 309) = some (.inl 1) := hC.2.2.1.1.1
  obtain ⟨hXt, gx1, gx2⟩ := hC.2.2.2.1
  have gx1 : gi h (c + 1543) 1 = (tx.length : Int) := gx1
  have hkx := hXt.1
  have l80 : tx.length ≤ 80 := hC.2.2.2.2.2.2.2.2.1
  have t128 : ∀ x ∈ tx, x < 128 := hC.2.2.2.2.2.2.2.2.2
  by_cases c1 : 0 ≤ p ∧ p ≤ 3
  · rw [if_neg (fun z => z c1)]
    obtain ⟨u, rfl⟩ := Int.eq_ofNat_of_zero_le c1.1
    rw [Int.toNat_natCast]
    have hu : u < 4 := by omega
    obtain ⟨πz, ρz, hZ⟩ := hC.2.2.2.2.1.2.2.1
    have hkz := hZ.1
    have KF : Call γ mX3_faultOf 7 0 0 [vr (some (c + 1621)), vr (some (c + 1543))] h (rE (vi (rdQ tx).1) (fun h' => shZ h' (c + 1621) πz ρz ∧ eqO h h' (c + 1621) (c + 1621 + 75) ∧ ((rdQ tx).1 = -1 → isQ h' (c + 1621 + 1) πz ρz (rdQ tx).2))) := c_flt (γ := γ) (f := fT9 tx) (n := tx.length) hXt l80 gx1 (fT9_lt t128) (fun k hk => by
      obtain ⟨x, hx⟩ : ∃ x, tx[k]? = some x := ⟨_, List.getElem?_eq_getElem hk⟩
      rw [fT9_at hx]
      exact gx2 k x hx) (by omega) hZ
    have fb := flt_bd (fT9_lt t128) tx.length 0 z0 trivial
    have fb : -1 ≤ (rdQ tx).1 ∧ (rdQ tx).1 ≤ 80 := ⟨fb.1, by have := fb.2; show (flt (fT9 tx) tx.length 0 z0).1 ≤ 80; omega⟩
    by_cases d1 : (rdQ tx).1 = -1
    · rw [if_pos d1]
      have okz : okQ (rdQ tx).2 := flt_ok (fT9_lt t128) tx.length 0 z0 okZ_z0 d1
      have lnz : lnQ (rdQ tx).2 := flt_ln (fT9_lt t128) l80 d1
      refine Call.of (ls := [(0, vr (some c)), (1, vi (u : Int))]) vX11_read.1 (Nat.le_of_ble_eq_true rfl) rfl ?_
      refine aw_aload_n dX11_read_0 rfl ?_
      refine aw_iload_n dX11_read_1 rfl ?_
      refine aw_invV_n dX11_read_2 vX11_requirePlace kX11_156 rfl (c_rPlace (γ := γ) (h := h) hp c1) ⟨_, (by assumption), _, _, rfl⟩ rfl rfl (by decide) (by decide) (by decide) (Nat.le_of_ble_eq_true rfl) ?_
      refine aw_aload_n dX11_read_5 rfl ?_
      refine aw_getr' (j := 5) dX11_read_6 fX11_45 rfl (by assumption) rfl (by assumption) ?_
      refine aw_aload_n dX11_read_9 rfl ?_
      refine aw_getr' (j := 2) dX11_read_10 fX11_28 rfl (by assumption) rfl (by assumption) ?_
      refine aw_invV_e dX11_read_13 vX3_faultOf kX11_159 rfl (KF) ⟨_, (by assumption), _, _, rfl⟩ rfl rfl (by decide) (by decide) (by decide) (Nat.le_of_ble_eq_true rfl) (fun H1 hP9 => ?_)
      obtain ⟨Z1, E1, Q1⟩ := hP9
      have Q1 := Q1 d1
      have C1 : isCl H1 c ((T, qs), U, tx) := hC.wk (fun b b1 b2 => E1.2 b (by omega)) (hC.2.2.2.2.1.pa E1 ⟨_, _, Z1⟩)
      obtain ⟨hkc', r0', r1', r2', r3', r4', r5', r6', r7', r8', hks', s0', s1', hkq', hkt'⟩ := cl_f C1
      have hkh' : kd H1 (c + 309) = some (.inl 1) := C1.2.2.1.1.1
      refine aw_istore_n (ls1 := [(2, _), (0, _), (1, _)]) dX11_read_16 (by decide) rfl ?_
      refine aw_iload_n dX11_read_17 rfl ?_
      refine aw_iconst dX11_read_18 ?_
      refine aw_ic_eq (tgt := 27) dX11_read_19 rfl (by omega) (by omega) (fun c19 => ?_) (fun c19 => ?_)
      · refine aw_aload_n dX11_read_27 rfl ?_
        refine aw_getr' (j := 1) dX11_read_28 fX11_19 rfl (by assumption) rfl (by assumption) ?_
        refine aw_aload_n dX11_read_31 rfl ?_
        refine aw_getr' (j := 0) dX11_read_32 fX11_12 rfl (by assumption) rfl (by assumption) ?_
        refine aw_invV_f dX11_read_35 vX2_push kX11_90 rfl (c_sav C1) ⟨_, (by assumption), _, _, rfl⟩ rfl rfl (by decide) (by decide) (by decide) (Nat.le_of_ble_eq_true rfl) (fun H2 hP9 => ?_)
        obtain ⟨C2, E2⟩ := hP9
        have C2 : isCl H2 c ((T, qs), psh U (T, qs), tx) := C2
        have Q2 := Q1.eq (fun b b1 b2 => E2.2 b (by omega))
        have hkz2 := (E2.2 (c + 1621) (by omega)).e.trans Z1.1
        have rz2 := ((E2.2 (c + 1621) (by omega)).r 0).trans Z1.2.1
        obtain ⟨hkc'', r0'', r1'', r2'', r3'', r4'', r5'', r6'', r7'', r8'', hks'', s0'', s1'', hkq'', hkt''⟩ := cl_f C2
        obtain ⟨rq, π, ρ, hQ⟩ := cl_q C2 hu
        have hkq9 := hQ.1.1
        refine aw_aload_n dX11_read_38 rfl ?_
        refine aw_getr' (j := 0) dX11_read_39 fX11_12 rfl (by assumption) rfl (by assumption) ?_
        refine aw_getr' (j := 1) dX11_read_42 fX11_163 rfl (by assumption) rfl (by assumption) ?_
        refine aw_iload_n dX11_read_45 rfl ?_
        refine aw_aald5' dX11_read_46 (by assumption) (by omega) (by first | decide | omega) rq ?_
        refine aw_aload_n dX11_read_47 rfl ?_
        refine aw_getr' (j := 5) dX11_read_48 fX11_45 rfl (by assumption) rfl (by assumption) ?_
        refine aw_getr' (j := 0) dX11_read_51 fX11_167 rfl (by assumption) rfl (by assumption) ?_
        refine aw_invV_f dX11_read_54 vX5_copyFrom kX11_170 rfl (c_qcopy (γ := γ) hQ.1 Q2 (by omega)) ⟨_, (by assumption), _, _, rfl⟩ rfl rfl (by decide) (by decide) (by decide) (Nat.le_of_ble_eq_true rfl) (fun H3 hP9 => ?_)
        obtain ⟨Q3, E3⟩ := hP9
        have C3 : isCl H3 c (upQ (T, qs) u (rdQ tx).2, psh U (T, qs), tx) := C2.qu hu E3 Q3 okz lnz
        obtain ⟨hkc3, r03, -, -, -, -, -, -, -, -, hks3, s03, s13, hkq3, -⟩ := cl_f C3
        obtain ⟨rq3, -⟩ := cl_q C3 hu
        have hkq93 := Q3.1.1
        have gl3 := Q3.2.1
        have EE : eqO h H3 c (c + 1704) := ((E1.mono (by omega) (by omega)).tr (E2.mono (by omega) (by omega))).tr (E3.mono (by omega) (by omega))
        refine aw_aload_n dX11_read_57 rfl ?_
        refine aw_getr' (j := 0) dX11_read_58 fX11_12 rfl (by assumption) rfl (by assumption) ?_
        refine aw_getr' (j := 1) dX11_read_61 fX11_163 rfl (by assumption) rfl (by assumption) ?_
        refine aw_iload_n dX11_read_64 rfl ?_
        refine aw_aald5' dX11_read_65 (by assumption) (by omega) (by first | decide | omega) rq3 ?_
        refine aw_geti' (j := 0) dX11_read_66 fX11_174 rfl (by assumption) rfl gl3 ?_
        exact aw_ireturn dX11_read_69 rfl (Or.inr (EE.1.trans hn)) (rC_ok C3 EE)
      · exact absurd c19 (by omega)
    · rw [if_neg d1]
      refine Call.of (ls := [(0, vr (some c)), (1, vi (u : Int))]) vX11_read.1 (Nat.le_of_ble_eq_true rfl) rfl ?_
      refine aw_aload_n dX11_read_0 rfl ?_
      refine aw_iload_n dX11_read_1 rfl ?_
      refine aw_invV_n dX11_read_2 vX11_requirePlace kX11_156 rfl (c_rPlace (γ := γ) (h := h) hp c1) ⟨_, (by assumption), _, _, rfl⟩ rfl rfl (by decide) (by decide) (by decide) (Nat.le_of_ble_eq_true rfl) ?_
      refine aw_aload_n dX11_read_5 rfl ?_
      refine aw_getr' (j := 5) dX11_read_6 fX11_45 rfl (by assumption) rfl (by assumption) ?_
      refine aw_aload_n dX11_read_9 rfl ?_
      refine aw_getr' (j := 2) dX11_read_10 fX11_28 rfl (by assumption) rfl (by assumption) ?_
      refine aw_invV_e dX11_read_13 vX3_faultOf kX11_159 rfl (KF) ⟨_, (by assumption), _, _, rfl⟩ rfl rfl (by decide) (by decide) (by decide) (Nat.le_of_ble_eq_true rfl) (fun H1 hP9 => ?_)
      obtain ⟨Z1, E1, Q1⟩ := hP9
      have C1 : isCl H1 c ((T, qs), U, tx) := hC.wk (fun b b1 b2 => E1.2 b (by omega)) (hC.2.2.2.2.1.pa E1 ⟨_, _, Z1⟩)
      refine aw_istore_n (ls1 := [(2, _), (0, _), (1, _)]) dX11_read_16 (by decide) rfl ?_
      refine aw_iload_n dX11_read_17 rfl ?_
      refine aw_iconst dX11_read_18 ?_
      refine aw_ic_eq (tgt := 27) dX11_read_19 rfl (by omega) (by omega) (fun c19 => ?_) (fun c19 => ?_)
      · exact absurd c19 (by omega)
      · refine aw_bipush dX11_read_22 rfl ?_
        refine aw_iload_n dX11_read_24 rfl ?_
        refine aw_isub dX11_read_25 ?_
        exact aw_ireturn dX11_read_26 rfl (Or.inr (E1.1.trans hn)) (rC_ok C1 (E1.mono (by omega) (by omega)))
  · rw [if_pos c1]
    refine Call.of (ls := [(0, vr (some c)), (1, vi p)]) vX11_read.1 (Nat.le_of_ble_eq_true rfl) rfl ?_
    refine aw_aload_n dX11_read_0 rfl ?_
    refine aw_iload_n dX11_read_1 rfl ?_
    exact aw_invV_x dX11_read_2 vX11_requirePlace kX11_156 rfl (c_rPlace_x (γ := γ) (h := h) hp hn c1) ⟨_, (by assumption), _, _, rfl⟩ rfl rfl (by decide) (by decide) (by decide) (Nat.le_of_ble_eq_true rfl) (rC_err hC (by decide) rfl)
theorem shQ.wi9 {h : AH} {a : Nat} {π : Nat → Nat} {ρ : Nat → Nat → Nat} {j z : Int} (s : shQ h a π ρ) : shQ (si h a j z) a π ρ := by
  obtain ⟨h1, h2, h3, h4, h5, h6⟩ := s
  exact ⟨h1, h2, h3, h4, h5, fun i hi => (h6 i hi).eq (fun b b1 b2 => eqA.si (by omega))⟩
theorem c_drop {γ : GG} {h : AH} {c : Nat} {F : FS} {p : Int} (hC : isCl h c F) (hn : nx h = none) (hp : (-2147483648 ≤ p ∧ p ≤ 2147483647)) : Call γ mX11_drop 8 1 6 [vr (some c), vi p] h (rC9 h c [xnIO] (opDrp F p)) := by
  obtain ⟨S, U, tx⟩ := F
  obtain ⟨T, qs⟩ := S
  have hC : isCl h c ((T, qs), U, tx) := hC
  obtain ⟨hkc, r0, r1, r2, r3, r4, r5, r6, r7, r8, hks, s0, s1, hkq, hkt⟩ := cl_f hC
  have hT : isTr h (c + 1 + 1) T := hC.2.1.2.1
  have oT : okTr T := hC.2.2.2.2.2.1.1
  have o9 := oT.o
  have n40 := o9.2.1
  have n1 := o9.1
  have gt0 : gi h (c + 1 + 1) 0 = (tn T : Int) := hT.2.1
  unfold opDrp
  dsimp only
  have hkh : kd h (c + 309) = some (.inl 1) := hC.2.2.1.1.1
  by_cases c1 : 0 ≤ p ∧ p ≤ 3
  · rw [if_neg (fun z => z c1)]
    obtain ⟨u, rfl⟩ := Int.eq_ofNat_of_zero_le c1.1
    rw [Int.toNat_natCast]
    have hu : u < 4 := by omega
    have q4 : (qs u).length ≤ 4 := (hC.2.2.2.2.2.1.2 u hu).1.1
    by_cases d1 : qs u = []
    · rw [if_pos d1]
      have lq : (qs u).length = 0 := by rw [d1]; rfl
      refine Call.of (ls := [(0, vr (some c)), (1, vi (u : Int))]) vX11_drop.1 (Nat.le_of_ble_eq_true rfl) rfl ?_
      refine aw_aload_n dX11_drop_0 rfl ?_
      refine aw_iload_n dX11_drop_1 rfl ?_
      refine aw_invV_n dX11_drop_2 vX11_requirePlace kX11_156 rfl (c_rPlace (γ := γ) (h := h) hp c1) ⟨_, (by assumption), _, _, rfl⟩ rfl rfl (by decide) (by decide) (by decide) (Nat.le_of_ble_eq_true rfl) ?_
      refine aw_aload_n dX11_drop_5 rfl ?_
      refine aw_getr' (j := 1) dX11_drop_6 fX11_19 rfl (by assumption) rfl (by assumption) ?_
      refine aw_aload_n dX11_drop_9 rfl ?_
      refine aw_getr' (j := 0) dX11_drop_10 fX11_12 rfl (by assumption) rfl (by assumption) ?_
      refine aw_invV_f dX11_drop_13 vX2_push kX11_90 rfl (c_sav hC) ⟨_, (by assumption), _, _, rfl⟩ rfl rfl (by decide) (by decide) (by decide) (Nat.le_of_ble_eq_true rfl) (fun H2 hP9 => ?_)
      obtain ⟨C2, E2⟩ := hP9
      have C2 : isCl H2 c ((T, qs), psh U (T, qs), tx) := C2
      obtain ⟨hkc'', r0'', r1'', r2'', r3'', r4'', r5'', r6'', r7'', r8'', hks'', s0'', s1'', hkq'', hkt''⟩ := cl_f C2
      obtain ⟨rq, π, ρ, hQ⟩ := cl_q C2 hu
      have hQ : isQ H2 (c + 1 + 12 + 74 * u) π ρ (qs u) := hQ
      have hkq9 := hQ.1.1
      have gl := hQ.2.1
      have E3 : eqO H2 (si H2 (c + 1 + 12 + 74 * u) 0 0) (c + 1 + 12 + 74 * u) (c + 1 + 12 + 74 * u + 74) := eqO.si (by omega) (by omega)
      have Q3 : isQ (si H2 (c + 1 + 12 + 74 * u) 0 0) (c + 1 + 12 + 74 * u) π ρ [] := ⟨hQ.1.wi9, gi_at rfl rfl, Nat.zero_le _, fun i t ht => by simp at ht⟩
      have C3 : isCl (si H2 (c + 1 + 12 + 74 * u) 0 0) c (upQ (T, qs) u [], psh U (T, qs), tx) := C2.qu hu E3 Q3 okQ_nil lnQ_nil
      have EE : eqO h (si H2 (c + 1 + 12 + 74 * u) 0 0) c (c + 1704) := (E2.mono (by omega) (by omega)).tr (E3.mono (by omega) (by omega))
      refine aw_aload_n dX11_drop_16 rfl ?_
      refine aw_getr' (j := 0) dX11_drop_17 fX11_12 rfl (by assumption) rfl (by assumption) ?_
      refine aw_getr' (j := 1) dX11_drop_20 fX11_163 rfl (by assumption) rfl (by assumption) ?_
      refine aw_iload_n dX11_drop_23 rfl ?_
      refine aw_aald5' dX11_drop_24 (by assumption) (by omega) (by first | decide | omega) rq ?_
      refine aw_geti' (j := 0) dX11_drop_25 fX11_174 rfl (by assumption) rfl gl ?_
      refine aw_if_le (tgt := 35) dX11_drop_28 rfl (by omega) (fun c28 => ?_) (fun c28 => ?_)
      · refine aw_iconst dX11_drop_35 ?_
        refine aw_istore_n (ls1 := [(2, _), (0, _), (1, _)]) dX11_drop_36 (by decide) rfl ?_
        refine aw_aload_n dX11_drop_37 rfl ?_
        refine aw_getr' (j := 0) dX11_drop_38 fX11_12 rfl (by assumption) rfl (by assumption) ?_
        refine aw_getr' (j := 1) dX11_drop_41 fX11_163 rfl (by assumption) rfl (by assumption) ?_
        refine aw_iload_n dX11_drop_44 rfl ?_
        refine aw_aald5' dX11_drop_45 (by assumption) (by omega) (by first | decide | omega) rq ?_
        refine aw_iconst dX11_drop_46 ?_
        refine aw_puti' (j := 0) rfl dX11_drop_47 fX11_174 (by assumption) rfl ?_
        refine aw_iload_n dX11_drop_50 rfl ?_
        exact aw_ireturn dX11_drop_51 rfl (Or.inr (EE.1.trans hn)) (rC_ok C3 EE)
      · exact absurd c28 (by omega)
    · rw [if_neg d1]
      have lq : 1 ≤ (qs u).length := one_le d1
      refine Call.of (ls := [(0, vr (some c)), (1, vi (u : Int))]) vX11_drop.1 (Nat.le_of_ble_eq_true rfl) rfl ?_
      refine aw_aload_n dX11_drop_0 rfl ?_
      refine aw_iload_n dX11_drop_1 rfl ?_
      refine aw_invV_n dX11_drop_2 vX11_requirePlace kX11_156 rfl (c_rPlace (γ := γ) (h := h) hp c1) ⟨_, (by assumption), _, _, rfl⟩ rfl rfl (by decide) (by decide) (by decide) (Nat.le_of_ble_eq_true rfl) ?_
      refine aw_aload_n dX11_drop_5 rfl ?_
      refine aw_getr' (j := 1) dX11_drop_6 fX11_19 rfl (by assumption) rfl (by assumption) ?_
      refine aw_aload_n dX11_drop_9 rfl ?_
      refine aw_getr' (j := 0) dX11_drop_10 fX11_12 rfl (by assumption) rfl (by assumption) ?_
      refine aw_invV_f dX11_drop_13 vX2_push kX11_90 rfl (c_sav hC) ⟨_, (by assumption), _, _, rfl⟩ rfl rfl (by decide) (by decide) (by decide) (Nat.le_of_ble_eq_true rfl) (fun H2 hP9 => ?_)
      obtain ⟨C2, E2⟩ := hP9
      have C2 : isCl H2 c ((T, qs), psh U (T, qs), tx) := C2
      obtain ⟨hkc'', r0'', r1'', r2'', r3'', r4'', r5'', r6'', r7'', r8'', hks'', s0'', s1'', hkq'', hkt''⟩ := cl_f C2
      obtain ⟨rq, π, ρ, hQ⟩ := cl_q C2 hu
      have hQ : isQ H2 (c + 1 + 12 + 74 * u) π ρ (qs u) := hQ
      have hkq9 := hQ.1.1
      have gl := hQ.2.1
      have E3 : eqO H2 (si H2 (c + 1 + 12 + 74 * u) 0 0) (c + 1 + 12 + 74 * u) (c + 1 + 12 + 74 * u + 74) := eqO.si (by omega) (by omega)
      have Q3 : isQ (si H2 (c + 1 + 12 + 74 * u) 0 0) (c + 1 + 12 + 74 * u) π ρ [] := ⟨hQ.1.wi9, gi_at rfl rfl, Nat.zero_le _, fun i t ht => by simp at ht⟩
      have C3 : isCl (si H2 (c + 1 + 12 + 74 * u) 0 0) c (upQ (T, qs) u [], psh U (T, qs), tx) := C2.qu hu E3 Q3 okQ_nil lnQ_nil
      have EE : eqO h (si H2 (c + 1 + 12 + 74 * u) 0 0) c (c + 1704) := (E2.mono (by omega) (by omega)).tr (E3.mono (by omega) (by omega))
      refine aw_aload_n dX11_drop_16 rfl ?_
      refine aw_getr' (j := 0) dX11_drop_17 fX11_12 rfl (by assumption) rfl (by assumption) ?_
      refine aw_getr' (j := 1) dX11_drop_20 fX11_163 rfl (by assumption) rfl (by assumption) ?_
      refine aw_iload_n dX11_drop_23 rfl ?_
      refine aw_aald5' dX11_drop_24 (by assumption) (by omega) (by first | decide | omega) rq ?_
      refine aw_geti' (j := 0) dX11_drop_25 fX11_174 rfl (by assumption) rfl gl ?_
      refine aw_if_le (tgt := 35) dX11_drop_28 rfl (by omega) (fun c28 => ?_) (fun c28 => ?_)
      · exact absurd c28 (by omega)
      · refine aw_iconst dX11_drop_31 ?_
        refine aw_goto (tgt := 36) dX11_drop_32 rfl ?_
        refine aw_istore_n (ls1 := [(2, _), (0, _), (1, _)]) dX11_drop_36 (by decide) rfl ?_
        refine aw_aload_n dX11_drop_37 rfl ?_
        refine aw_getr' (j := 0) dX11_drop_38 fX11_12 rfl (by assumption) rfl (by assumption) ?_
        refine aw_getr' (j := 1) dX11_drop_41 fX11_163 rfl (by assumption) rfl (by assumption) ?_
        refine aw_iload_n dX11_drop_44 rfl ?_
        refine aw_aald5' dX11_drop_45 (by assumption) (by omega) (by first | decide | omega) rq ?_
        refine aw_iconst dX11_drop_46 ?_
        refine aw_puti' (j := 0) rfl dX11_drop_47 fX11_174 (by assumption) rfl ?_
        refine aw_iload_n dX11_drop_50 rfl ?_
        exact aw_ireturn dX11_drop_51 rfl (Or.inr (EE.1.trans hn)) (rC_ok C3 EE)
  · rw [if_pos c1]
    refine Call.of (ls := [(0, vr (some c)), (1, vi p)]) vX11_drop.1 (Nat.le_of_ble_eq_true rfl) rfl ?_
    refine aw_aload_n dX11_drop_0 rfl ?_
    refine aw_iload_n dX11_drop_1 rfl ?_
    exact aw_invV_x dX11_drop_2 vX11_requirePlace kX11_156 rfl (c_rPlace_x (γ := γ) (h := h) hp hn c1) ⟨_, (by assumption), _, _, rfl⟩ rfl rfl (by decide) (by decide) (by decide) (Nat.le_of_ble_eq_true rfl) (rC_err hC (by decide) rfl)
theorem c_undo {γ : GG} {h : AH} {c : Nat} {F : FS} (hC : isCl h c F) (hn : nx h = none) : Call γ mX11_undo 7 1 6 [vr (some c)] h (rC9 h c [xnIS] (opUnd F)) := by
  obtain ⟨S, U, tx⟩ := F
  obtain ⟨T, qs⟩ := S
  have hC : isCl h c ((T, qs), U, tx) := hC
  obtain ⟨hkc, r0, r1, r2, r3, r4, r5, r6, r7, r8, hks, s0, s1, hkq, hkt⟩ := cl_f hC
  have hT : isTr h (c + 1 + 1) T := hC.2.1.2.1
  have oT : okTr T := hC.2.2.2.2.2.1.1
  have o9 := oT.o
  have n40 := o9.2.1
  have n1 := o9.1
  have gt0 : gi h (c + 1 + 1) 0 = (tn T : Int) := hT.2.1
  have hkh : kd h (c + 309) = some (.inl 1) := hC.2.2.1.1.1
  have ghl : gi h (c + 309) 2 = (U.length : Int) := hC.2.2.1.2.1
  have u4 : U.length ≤ 4 := hC.2.2.2.2.2.2.1
  unfold opUnd
  dsimp only
  rcases List.eq_nil_or_concat U with e | ⟨U', S', e⟩
  · subst e
    have ghl : gi h (c + 309) 2 = 0 := ghl
    refine Call.of (ls := [(0, vr (some c))]) vX11_undo.1 (Nat.le_of_ble_eq_true rfl) rfl ?_
    refine aw_aload_n dX11_undo_0 rfl ?_
    refine aw_getr' (j := 1) dX11_undo_1 fX11_19 rfl (by assumption) rfl (by assumption) ?_
    refine aw_geti' (j := 2) dX11_undo_4 fX11_233 rfl (by assumption) rfl ghl ?_
    refine aw_if_ne (tgt := 20) dX11_undo_7 rfl (by omega) (fun c7 => ?_) (fun c7 => ?_)
    · exact absurd c7 (by omega)
    · exact aw_throw (twIS 234) rfl (List.mem_of_getElem? (i := 11) rfl) rfl dX11_undo_10 dX11_undo_13 dX11_undo_14 dX11_undo_16 dX11_undo_19 (by decide) (Nat.le_of_ble_eq_true rfl) (by decide) (by decide) hn (rC_err hC (by decide) rfl)
  · rw [List.concat_eq_append] at e
    subst e
    rw [List.getLast?_append, List.getLast?_singleton, Option.some_or, List.dropLast_concat]
    dsimp only
    rw [List.length_append, List.length_singleton] at ghl u4
    have oS : okSt S' := hC.2.2.2.2.2.2.2.1 S' (by simp)
    have KP := c_popTo (γ := γ) hC.2.2.1 hC.2.1.1 oS.1.2.1 (by omega)
    refine Call.of (ls := [(0, vr (some c))]) vX11_undo.1 (Nat.le_of_ble_eq_true rfl) rfl ?_
    refine aw_aload_n dX11_undo_0 rfl ?_
    refine aw_getr' (j := 1) dX11_undo_1 fX11_19 rfl (by assumption) rfl (by assumption) ?_
    refine aw_geti' (j := 2) dX11_undo_4 fX11_233 rfl (by assumption) rfl ghl ?_
    refine aw_if_ne (tgt := 20) dX11_undo_7 rfl (by omega) (fun c7 => ?_) (fun c7 => ?_)
    · refine aw_aload_n dX11_undo_20 rfl ?_
      refine aw_getr' (j := 1) dX11_undo_21 fX11_19 rfl (by assumption) rfl (by assumption) ?_
      refine aw_aload_n dX11_undo_24 rfl ?_
      refine aw_getr' (j := 0) dX11_undo_25 fX11_12 rfl (by assumption) rfl (by assumption) ?_
      refine aw_invV_f dX11_undo_28 vX2_popTo kX11_236 rfl (KP) ⟨_, (by assumption), _, _, rfl⟩ rfl rfl (by decide) (by decide) (by decide) (Nat.le_of_ble_eq_true rfl) (fun H1 hP9 => ?_)
      obtain ⟨H9, S9, N9, E9⟩ := hP9
      have EE : eqO h H1 c (c + 1704) := ⟨N9, fun b hb => E9 b (by omega) (by omega)⟩
      have C1 : isCl H1 c (S', U', tx) := by
        obtain ⟨h1, h2, h3, h4, h5, o1, o2, o3, o4⟩ := hC
        exact ⟨h1.eq (E9 c (by omega) (by omega)), S9, H9, h4.eq (fun b b1 b2 => E9 b (by omega) (by omega)), h5.eq (fun b b1 b2 => E9 b (by omega) (by omega)), oS, by show U'.length ≤ 4; omega, fun S hS => o3 S (List.mem_append_left _ hS), o4⟩
      obtain ⟨hkc', r0', r1', -⟩ := cl_f C1
      have hkh' := H9.1.1
      have ghl' := H9.2.1
      refine aw_aload_n dX11_undo_31 rfl ?_
      refine aw_getr' (j := 1) dX11_undo_32 fX11_19 rfl (by assumption) rfl (by assumption) ?_
      refine aw_geti' (j := 2) dX11_undo_35 fX11_233 rfl (by assumption) rfl ghl' ?_
      exact aw_ireturn dX11_undo_38 rfl (Or.inr (EE.1.trans hn)) (rC_ok C1 EE)
    · exact absurd c7 (by omega)
theorem c_unite {γ : GG} {h : AH} {c : Nat} {F : FS} {p r s : Int} (hC : isCl h c F) (hn : nx h = none) (hp : (-2147483648 ≤ p ∧ p ≤ 2147483647)) (hr : (-2147483648 ≤ r ∧ r ≤ 2147483647)) (hs : (-2147483648 ≤ s ∧ s ≤ 2147483647)) : Call γ mX11_unite 8 1 6 [vr (some c), vi p, vi r, vi s] h (rC9 h c [xnIO, xnIS] (opUni F p r s)) := by
  obtain ⟨S, U, tx⟩ := F
  obtain ⟨T, qs⟩ := S
  have hC : isCl h c ((T, qs), U, tx) := hC
  obtain ⟨hkc, r0, r1, r2, r3, r4, r5, r6, r7, r8, hks, s0, s1, hkq, hkt⟩ := cl_f hC
  have hT : isTr h (c + 1 + 1) T := hC.2.1.2.1
  have oT : okTr T := hC.2.2.2.2.2.1.1
  have o9 := oT.o
  have n40 := o9.2.1
  have n1 := o9.1
  have gt0 : gi h (c + 1 + 1) 0 = (tn T : Int) := hT.2.1
  unfold opUni
  dsimp only
  have hkh : kd h (c + 309) = some (.inl 1) := hC.2.2.1.1.1
  by_cases c1 : 0 ≤ p ∧ p ≤ 3
  · by_cases c2 : 0 ≤ r ∧ r ≤ 3
    · by_cases c3 : 0 ≤ s ∧ s ≤ 3
      · rw [if_neg (fun z => z ⟨c1, c2, c3⟩)]
        obtain ⟨u, rfl⟩ := Int.eq_ofNat_of_zero_le c1.1
        obtain ⟨x, rfl⟩ := Int.eq_ofNat_of_zero_le c2.1
        obtain ⟨y, rfl⟩ := Int.eq_ofNat_of_zero_le c3.1
        rw [Int.toNat_natCast, Int.toNat_natCast, Int.toNat_natCast]
        have hu : u < 4 := by omega
        have hx : x < 4 := by omega
        have hy : y < 4 := by omega
        by_cases d3 : qs x = []
        · rw [if_pos (Or.inl d3)]
          refine Call.of (ls := [(0, vr (some c)), (1, vi (u : Int)), (2, vi (x : Int)), (3, vi (y : Int))]) vX11_unite.1 (Nat.le_of_ble_eq_true rfl) rfl ?_
          refine aw_aload_n dX11_unite_0 rfl ?_
          refine aw_iload_n dX11_unite_1 rfl ?_
          refine aw_invV_n dX11_unite_2 vX11_requirePlace kX11_156 rfl (c_rPlace (γ := γ) (h := h) hp c1) ⟨_, (by assumption), _, _, rfl⟩ rfl rfl (by decide) (by decide) (by decide) (Nat.le_of_ble_eq_true rfl) ?_
          refine aw_aload_n dX11_unite_5 rfl ?_
          refine aw_iload_n dX11_unite_6 rfl ?_
          refine aw_invV_n dX11_unite_7 vX11_requirePlace kX11_156 rfl (c_rPlace (γ := γ) (h := h) hr c2) ⟨_, (by assumption), _, _, rfl⟩ rfl rfl (by decide) (by decide) (by decide) (Nat.le_of_ble_eq_true rfl) ?_
          refine aw_aload_n dX11_unite_10 rfl ?_
          refine aw_iload_n dX11_unite_11 rfl ?_
          refine aw_invV_n dX11_unite_12 vX11_requirePlace kX11_156 rfl (c_rPlace (γ := γ) (h := h) hs c3) ⟨_, (by assumption), _, _, rfl⟩ rfl rfl (by decide) (by decide) (by decide) (Nat.le_of_ble_eq_true rfl) ?_
          refine aw_aload_n dX11_unite_15 rfl ?_
          refine aw_iload_n dX11_unite_16 rfl ?_
          exact aw_invV_x dX11_unite_17 vX11_requireQuery kX11_175 rfl (c_rQuery_x (γ := γ) hC hx hn (fun z => z d3)) ⟨_, (by assumption), _, _, rfl⟩ rfl rfl (by decide) (by decide) (by decide) (Nat.le_of_ble_eq_true rfl) (rC_err hC (by decide) rfl)
        · by_cases d4 : qs y = []
          · rw [if_pos (Or.inr d4)]
            refine Call.of (ls := [(0, vr (some c)), (1, vi (u : Int)), (2, vi (x : Int)), (3, vi (y : Int))]) vX11_unite.1 (Nat.le_of_ble_eq_true rfl) rfl ?_
            refine aw_aload_n dX11_unite_0 rfl ?_
            refine aw_iload_n dX11_unite_1 rfl ?_
            refine aw_invV_n dX11_unite_2 vX11_requirePlace kX11_156 rfl (c_rPlace (γ := γ) (h := h) hp c1) ⟨_, (by assumption), _, _, rfl⟩ rfl rfl (by decide) (by decide) (by decide) (Nat.le_of_ble_eq_true rfl) ?_
            refine aw_aload_n dX11_unite_5 rfl ?_
            refine aw_iload_n dX11_unite_6 rfl ?_
            refine aw_invV_n dX11_unite_7 vX11_requirePlace kX11_156 rfl (c_rPlace (γ := γ) (h := h) hr c2) ⟨_, (by assumption), _, _, rfl⟩ rfl rfl (by decide) (by decide) (by decide) (Nat.le_of_ble_eq_true rfl) ?_
            refine aw_aload_n dX11_unite_10 rfl ?_
            refine aw_iload_n dX11_unite_11 rfl ?_
            refine aw_invV_n dX11_unite_12 vX11_requirePlace kX11_156 rfl (c_rPlace (γ := γ) (h := h) hs c3) ⟨_, (by assumption), _, _, rfl⟩ rfl rfl (by decide) (by decide) (by decide) (Nat.le_of_ble_eq_true rfl) ?_
            refine aw_aload_n dX11_unite_15 rfl ?_
            refine aw_iload_n dX11_unite_16 rfl ?_
            refine aw_invV_n dX11_unite_17 vX11_requireQuery kX11_175 rfl (c_rQuery (γ := γ) hC hx d3) ⟨_, (by assumption), _, _, rfl⟩ rfl rfl (by decide) (by decide) (by decide) (Nat.le_of_ble_eq_true rfl) ?_
            refine aw_aload_n dX11_unite_20 rfl ?_
            refine aw_iload_n dX11_unite_21 rfl ?_
            exact aw_invV_x dX11_unite_22 vX11_requireQuery kX11_175 rfl (c_rQuery_x (γ := γ) hC hy hn (fun z => z d4)) ⟨_, (by assumption), _, _, rfl⟩ rfl rfl (by decide) (by decide) (by decide) (Nat.le_of_ble_eq_true rfl) (rC_err hC (by decide) rfl)
          · rw [if_neg (fun z => z.elim d3 d4)]
            obtain ⟨rqx, πx, ρx, hQx⟩ := cl_q hC hx
            obtain ⟨rqy, πy, ρy, hQy⟩ := cl_q hC hy
            have hQx : isQ h (c + 1 + 12 + 74 * x) πx ρx (qs x) := hQx
            have hQy : isQ h (c + 1 + 12 + 74 * y) πy ρy (qs y) := hQy
            have ox : okQ (qs x) ∧ lnQ (qs x) := hC.2.2.2.2.2.1.2 x hx
            have oy : okQ (qs y) ∧ lnQ (qs y) := hC.2.2.2.2.2.1.2 y hy
            have lx := ox.1.1
            have ly := oy.1.1
            have hkx := hQx.1.1
            have hky := hQy.1.1
            have glx := hQx.2.1
            have gly := hQy.2.1
            by_cases d5 : 4 < (qs x).length + (qs y).length
            · rw [if_pos d5]
              refine Call.of (ls := [(0, vr (some c)), (1, vi (u : Int)), (2, vi (x : Int)), (3, vi (y : Int))]) vX11_unite.1 (Nat.le_of_ble_eq_true rfl) rfl ?_
              refine aw_aload_n dX11_unite_0 rfl ?_
              refine aw_iload_n dX11_unite_1 rfl ?_
              refine aw_invV_n dX11_unite_2 vX11_requirePlace kX11_156 rfl (c_rPlace (γ := γ) (h := h) hp c1) ⟨_, (by assumption), _, _, rfl⟩ rfl rfl (by decide) (by decide) (by decide) (Nat.le_of_ble_eq_true rfl) ?_
              refine aw_aload_n dX11_unite_5 rfl ?_
              refine aw_iload_n dX11_unite_6 rfl ?_
              refine aw_invV_n dX11_unite_7 vX11_requirePlace kX11_156 rfl (c_rPlace (γ := γ) (h := h) hr c2) ⟨_, (by assumption), _, _, rfl⟩ rfl rfl (by decide) (by decide) (by decide) (Nat.le_of_ble_eq_true rfl) ?_
              refine aw_aload_n dX11_unite_10 rfl ?_
              refine aw_iload_n dX11_unite_11 rfl ?_
              refine aw_invV_n dX11_unite_12 vX11_requirePlace kX11_156 rfl (c_rPlace (γ := γ) (h := h) hs c3) ⟨_, (by assumption), _, _, rfl⟩ rfl rfl (by decide) (by decide) (by decide) (Nat.le_of_ble_eq_true rfl) ?_
              refine aw_aload_n dX11_unite_15 rfl ?_
              refine aw_iload_n dX11_unite_16 rfl ?_
              refine aw_invV_n dX11_unite_17 vX11_requireQuery kX11_175 rfl (c_rQuery (γ := γ) hC hx d3) ⟨_, (by assumption), _, _, rfl⟩ rfl rfl (by decide) (by decide) (by decide) (Nat.le_of_ble_eq_true rfl) ?_
              refine aw_aload_n dX11_unite_20 rfl ?_
              refine aw_iload_n dX11_unite_21 rfl ?_
              refine aw_invV_n dX11_unite_22 vX11_requireQuery kX11_175 rfl (c_rQuery (γ := γ) hC hy d4) ⟨_, (by assumption), _, _, rfl⟩ rfl rfl (by decide) (by decide) (by decide) (Nat.le_of_ble_eq_true rfl) ?_
              refine aw_aload_n dX11_unite_25 rfl ?_
              refine aw_getr' (j := 0) dX11_unite_26 fX11_12 rfl (by assumption) rfl (by assumption) ?_
              refine aw_getr' (j := 1) dX11_unite_29 fX11_163 rfl (by assumption) rfl (by assumption) ?_
              refine aw_iload_n dX11_unite_32 rfl ?_
              refine aw_aald5' dX11_unite_33 (by assumption) (by omega) (by first | decide | omega) rqx ?_
              refine aw_geti' (j := 0) dX11_unite_34 fX11_174 rfl (by assumption) rfl glx ?_
              refine aw_aload_n dX11_unite_37 rfl ?_
              refine aw_getr' (j := 0) dX11_unite_38 fX11_12 rfl (by assumption) rfl (by assumption) ?_
              refine aw_getr' (j := 1) dX11_unite_41 fX11_163 rfl (by assumption) rfl (by assumption) ?_
              refine aw_iload_n dX11_unite_44 rfl ?_
              refine aw_aald5' dX11_unite_45 (by assumption) (by omega) (by first | decide | omega) rqy ?_
              refine aw_geti' (j := 0) dX11_unite_46 fX11_174 rfl (by assumption) rfl gly ?_
              refine aw_iadd dX11_unite_49 ?_
              refine aw_iconst dX11_unite_50 ?_
              refine aw_ic_le (tgt := 64) dX11_unite_51 rfl (by omega) (by omega) (fun c51 => ?_) (fun c51 => ?_)
              · exact absurd c51 (by omega)
              · exact aw_throw (twIS 189) rfl (List.mem_of_getElem? (i := 9) rfl) rfl dX11_unite_54 dX11_unite_57 dX11_unite_58 dX11_unite_60 dX11_unite_63 (by decide) (Nat.le_of_ble_eq_true rfl) (by decide) (by decide) hn (rC_err hC (by decide) rfl)
            · rw [if_neg d5]
              obtain ⟨πd, ρd, hD⟩ := hC.2.2.2.2.1.2.1
              have hkd := hD.1
              refine Call.of (ls := [(0, vr (some c)), (1, vi (u : Int)), (2, vi (x : Int)), (3, vi (y : Int))]) vX11_unite.1 (Nat.le_of_ble_eq_true rfl) rfl ?_
              refine aw_aload_n dX11_unite_0 rfl ?_
              refine aw_iload_n dX11_unite_1 rfl ?_
              refine aw_invV_n dX11_unite_2 vX11_requirePlace kX11_156 rfl (c_rPlace (γ := γ) (h := h) hp c1) ⟨_, (by assumption), _, _, rfl⟩ rfl rfl (by decide) (by decide) (by decide) (Nat.le_of_ble_eq_true rfl) ?_
              refine aw_aload_n dX11_unite_5 rfl ?_
              refine aw_iload_n dX11_unite_6 rfl ?_
              refine aw_invV_n dX11_unite_7 vX11_requirePlace kX11_156 rfl (c_rPlace (γ := γ) (h := h) hr c2) ⟨_, (by assumption), _, _, rfl⟩ rfl rfl (by decide) (by decide) (by decide) (Nat.le_of_ble_eq_true rfl) ?_
              refine aw_aload_n dX11_unite_10 rfl ?_
              refine aw_iload_n dX11_unite_11 rfl ?_
              refine aw_invV_n dX11_unite_12 vX11_requirePlace kX11_156 rfl (c_rPlace (γ := γ) (h := h) hs c3) ⟨_, (by assumption), _, _, rfl⟩ rfl rfl (by decide) (by decide) (by decide) (Nat.le_of_ble_eq_true rfl) ?_
              refine aw_aload_n dX11_unite_15 rfl ?_
              refine aw_iload_n dX11_unite_16 rfl ?_
              refine aw_invV_n dX11_unite_17 vX11_requireQuery kX11_175 rfl (c_rQuery (γ := γ) hC hx d3) ⟨_, (by assumption), _, _, rfl⟩ rfl rfl (by decide) (by decide) (by decide) (Nat.le_of_ble_eq_true rfl) ?_
              refine aw_aload_n dX11_unite_20 rfl ?_
              refine aw_iload_n dX11_unite_21 rfl ?_
              refine aw_invV_n dX11_unite_22 vX11_requireQuery kX11_175 rfl (c_rQuery (γ := γ) hC hy d4) ⟨_, (by assumption), _, _, rfl⟩ rfl rfl (by decide) (by decide) (by decide) (Nat.le_of_ble_eq_true rfl) ?_
              refine aw_aload_n dX11_unite_25 rfl ?_
              refine aw_getr' (j := 0) dX11_unite_26 fX11_12 rfl (by assumption) rfl (by assumption) ?_
              refine aw_getr' (j := 1) dX11_unite_29 fX11_163 rfl (by assumption) rfl (by assumption) ?_
              refine aw_iload_n dX11_unite_32 rfl ?_
              refine aw_aald5' dX11_unite_33 (by assumption) (by omega) (by first | decide | omega) rqx ?_
              refine aw_geti' (j := 0) dX11_unite_34 fX11_174 rfl (by assumption) rfl glx ?_
              refine aw_aload_n dX11_unite_37 rfl ?_
              refine aw_getr' (j := 0) dX11_unite_38 fX11_12 rfl (by assumption) rfl (by assumption) ?_
              refine aw_getr' (j := 1) dX11_unite_41 fX11_163 rfl (by assumption) rfl (by assumption) ?_
              refine aw_iload_n dX11_unite_44 rfl ?_
              refine aw_aald5' dX11_unite_45 (by assumption) (by omega) (by first | decide | omega) rqy ?_
              refine aw_geti' (j := 0) dX11_unite_46 fX11_174 rfl (by assumption) rfl gly ?_
              refine aw_iadd dX11_unite_49 ?_
              refine aw_iconst dX11_unite_50 ?_
              refine aw_ic_le (tgt := 64) dX11_unite_51 rfl (by omega) (by omega) (fun c51 => ?_) (fun c51 => ?_)
              · refine aw_aload_n dX11_unite_64 rfl ?_
                refine aw_getr' (j := 4) dX11_unite_65 fX11_38 rfl (by assumption) rfl (by assumption) ?_
                refine aw_aload_n dX11_unite_68 rfl ?_
                refine aw_getr' (j := 0) dX11_unite_69 fX11_12 rfl (by assumption) rfl (by assumption) ?_
                refine aw_getr' (j := 1) dX11_unite_72 fX11_163 rfl (by assumption) rfl (by assumption) ?_
                refine aw_iload_n dX11_unite_75 rfl ?_
                refine aw_aald5' dX11_unite_76 (by assumption) (by omega) (by first | decide | omega) rqx ?_
                refine aw_invV_f dX11_unite_77 vX5_copyFrom kX11_170 rfl (c_qcopy (γ := γ) hD hQx (by omega)) ⟨_, (by assumption), _, _, rfl⟩ rfl rfl (by decide) (by decide) (by decide) (Nat.le_of_ble_eq_true rfl) (fun H1 hP9 => ?_)
                obtain ⟨D1, E1⟩ := hP9
                have C1 : isCl H1 c ((T, qs), U, tx) := hC.wk (fun b b1 b2 => E1.2 b (by omega)) (hC.2.2.2.2.1.dr E1 ⟨_, _, D1.1⟩)
                obtain ⟨hkc', r0', r1', r2', r3', r4', r5', r6', r7', r8', hks', s0', s1', hkq', hkt'⟩ := cl_f C1
                obtain ⟨rqy1, -⟩ := cl_q C1 hy
                have hQy1 := hQy.eq (fun b b1 b2 => E1.2 b (by omega))
                have hky1 := hQy1.1.1
                have hkd1 := D1.1.1
                refine aw_aload_n dX11_unite_80 rfl ?_
                refine aw_getr' (j := 4) dX11_unite_81 fX11_38 rfl (by assumption) rfl (by assumption) ?_
                refine aw_aload_n dX11_unite_84 rfl ?_
                refine aw_getr' (j := 0) dX11_unite_85 fX11_12 rfl (by assumption) rfl (by assumption) ?_
                refine aw_getr' (j := 1) dX11_unite_88 fX11_163 rfl (by assumption) rfl (by assumption) ?_
                refine aw_iload_n dX11_unite_91 rfl ?_
                refine aw_aald5' dX11_unite_92 (by assumption) (by omega) (by first | decide | omega) rqy1 ?_
                refine aw_invV_f dX11_unite_93 vX5_append kX11_191 rfl (c_qapp (γ := γ) D1 hQy1 (by omega) (by omega)) ⟨_, (by assumption), _, _, rfl⟩ rfl rfl (by decide) (by decide) (by decide) (Nat.le_of_ble_eq_true rfl) (fun H2 hP9 => ?_)
                obtain ⟨D2, E2⟩ := hP9
                have C2 : isCl H2 c ((T, qs), U, tx) := C1.wk (fun b b1 b2 => E2.2 b (by omega)) (C1.2.2.2.2.1.dr E2 ⟨_, _, D2.1⟩)
                obtain ⟨hkc2, r02, r12, r22, r32, r42, r52, r62, r72, r82, hks2, s02, s12, hkq2, hkt2⟩ := cl_f C2
                have hkh2 : kd H2 (c + 309) = some (.inl 1) := C2.2.2.1.1.1
                have KS := c_sav (γ := γ) C2
                refine aw_aload_n dX11_unite_96 rfl ?_
                refine aw_getr' (j := 1) dX11_unite_97 fX11_19 rfl (by assumption) rfl (by assumption) ?_
                refine aw_aload_n dX11_unite_100 rfl ?_
                refine aw_getr' (j := 0) dX11_unite_101 fX11_12 rfl (by assumption) rfl (by assumption) ?_
                refine aw_invV_f dX11_unite_104 vX2_push kX11_90 rfl (KS) ⟨_, (by assumption), _, _, rfl⟩ rfl rfl (by decide) (by decide) (by decide) (Nat.le_of_ble_eq_true rfl) (fun H3 hP9 => ?_)
                obtain ⟨C3, E3⟩ := hP9
                have C3 : isCl H3 c ((T, qs), psh U (T, qs), tx) := C3
                have D3 := D2.eq (fun b b1 b2 => E3.2 b (by omega))
                obtain ⟨hkc3, r03, r13, r23, r33, r43, r53, r63, r73, r83, hks3, s03, s13, hkq3, hkt3⟩ := cl_f C3
                obtain ⟨rqu, πu, ρu, hQu⟩ := cl_q C3 hu
                have hkqu := hQu.1.1
                have hkd3 := D3.1.1
                refine aw_aload_n dX11_unite_107 rfl ?_
                refine aw_getr' (j := 0) dX11_unite_108 fX11_12 rfl (by assumption) rfl (by assumption) ?_
                refine aw_getr' (j := 1) dX11_unite_111 fX11_163 rfl (by assumption) rfl (by assumption) ?_
                refine aw_iload_n dX11_unite_114 rfl ?_
                refine aw_aald5' dX11_unite_115 (by assumption) (by omega) (by first | decide | omega) rqu ?_
                refine aw_aload_n dX11_unite_116 rfl ?_
                refine aw_getr' (j := 4) dX11_unite_117 fX11_38 rfl (by assumption) rfl (by assumption) ?_
                refine aw_invV_f dX11_unite_120 vX5_copyFrom kX11_170 rfl (c_qcopy (γ := γ) hQu.1 D3 (by omega)) ⟨_, (by assumption), _, _, rfl⟩ rfl rfl (by decide) (by decide) (by decide) (Nat.le_of_ble_eq_true rfl) (fun H4 hP9 => ?_)
                obtain ⟨Q4, E4⟩ := hP9
                have C4 : isCl H4 c (upQ (T, qs) u (qs x ++ qs y), psh U (T, qs), tx) := C3.qu hu E4 Q4 (okQ_app ox.1 oy.1 (by omega)) (lnQ_app ox.2 oy.2)
                obtain ⟨hkc4, r04, -, -, -, -, -, -, -, -, hks4, s04, s14, hkq4, -⟩ := cl_f C4
                obtain ⟨rq4, -⟩ := cl_q C4 hu
                have hkq94 := Q4.1.1
                have gl4 : gi H4 (c + 1 + 12 + 74 * u) 0 = ((qs x).length : Int) + ((qs y).length : Int) := Q4.2.1.trans (by rw [List.length_append]; omega)
                have EE : eqO h H4 c (c + 1704) := (((E1.mono (by omega) (by omega)).tr (E2.mono (by omega) (by omega))).tr (E3.mono (by omega) (by omega))).tr (E4.mono (by omega) (by omega))
                refine aw_aload_n dX11_unite_123 rfl ?_
                refine aw_getr' (j := 0) dX11_unite_124 fX11_12 rfl (by assumption) rfl (by assumption) ?_
                refine aw_getr' (j := 1) dX11_unite_127 fX11_163 rfl (by assumption) rfl (by assumption) ?_
                refine aw_iload_n dX11_unite_130 rfl ?_
                refine aw_aald5' dX11_unite_131 (by assumption) (by omega) (by first | decide | omega) rq4 ?_
                refine aw_geti' (j := 0) dX11_unite_132 fX11_174 rfl (by assumption) rfl gl4 ?_
                exact aw_ireturn dX11_unite_135 rfl (Or.inr (EE.1.trans hn)) (rC_ok C4 EE)
              · exact absurd c51 (by omega)
      · rw [if_pos (fun z => c3 z.2.2)]
        refine Call.of (ls := [(0, vr (some c)), (1, vi p), (2, vi r), (3, vi s)]) vX11_unite.1 (Nat.le_of_ble_eq_true rfl) rfl ?_
        refine aw_aload_n dX11_unite_0 rfl ?_
        refine aw_iload_n dX11_unite_1 rfl ?_
        refine aw_invV_n dX11_unite_2 vX11_requirePlace kX11_156 rfl (c_rPlace (γ := γ) (h := h) hp c1) ⟨_, (by assumption), _, _, rfl⟩ rfl rfl (by decide) (by decide) (by decide) (Nat.le_of_ble_eq_true rfl) ?_
        refine aw_aload_n dX11_unite_5 rfl ?_
        refine aw_iload_n dX11_unite_6 rfl ?_
        refine aw_invV_n dX11_unite_7 vX11_requirePlace kX11_156 rfl (c_rPlace (γ := γ) (h := h) hr c2) ⟨_, (by assumption), _, _, rfl⟩ rfl rfl (by decide) (by decide) (by decide) (Nat.le_of_ble_eq_true rfl) ?_
        refine aw_aload_n dX11_unite_10 rfl ?_
        refine aw_iload_n dX11_unite_11 rfl ?_
        exact aw_invV_x dX11_unite_12 vX11_requirePlace kX11_156 rfl (c_rPlace_x (γ := γ) (h := h) hs hn c3) ⟨_, (by assumption), _, _, rfl⟩ rfl rfl (by decide) (by decide) (by decide) (Nat.le_of_ble_eq_true rfl) (rC_err hC (by decide) rfl)
    · rw [if_pos (fun z => c2 z.2.1)]
      refine Call.of (ls := [(0, vr (some c)), (1, vi p), (2, vi r), (3, vi s)]) vX11_unite.1 (Nat.le_of_ble_eq_true rfl) rfl ?_
      refine aw_aload_n dX11_unite_0 rfl ?_
      refine aw_iload_n dX11_unite_1 rfl ?_
      refine aw_invV_n dX11_unite_2 vX11_requirePlace kX11_156 rfl (c_rPlace (γ := γ) (h := h) hp c1) ⟨_, (by assumption), _, _, rfl⟩ rfl rfl (by decide) (by decide) (by decide) (Nat.le_of_ble_eq_true rfl) ?_
      refine aw_aload_n dX11_unite_5 rfl ?_
      refine aw_iload_n dX11_unite_6 rfl ?_
      exact aw_invV_x dX11_unite_7 vX11_requirePlace kX11_156 rfl (c_rPlace_x (γ := γ) (h := h) hr hn c2) ⟨_, (by assumption), _, _, rfl⟩ rfl rfl (by decide) (by decide) (by decide) (Nat.le_of_ble_eq_true rfl) (rC_err hC (by decide) rfl)
  · rw [if_pos (fun z => c1 z.1)]
    refine Call.of (ls := [(0, vr (some c)), (1, vi p), (2, vi r), (3, vi s)]) vX11_unite.1 (Nat.le_of_ble_eq_true rfl) rfl ?_
    refine aw_aload_n dX11_unite_0 rfl ?_
    refine aw_iload_n dX11_unite_1 rfl ?_
    exact aw_invV_x dX11_unite_2 vX11_requirePlace kX11_156 rfl (c_rPlace_x (γ := γ) (h := h) hp hn c1) ⟨_, (by assumption), _, _, rfl⟩ rfl rfl (by decide) (by decide) (by decide) (Nat.le_of_ble_eq_true rfl) (rC_err hC (by decide) rfl)
theorem c_rewrite {γ : GG} {h : AH} {c : Nat} {F : FS} {p : Int} (hC : isCl h c F) (hn : nx h = none) (hp : (-2147483648 ≤ p ∧ p ≤ 2147483647)) : Call γ mX11_rewrite 8 1 6 [vr (some c), vi p] h (rC9 h c [xnIO, xnIS] (opRew F p)) := by
  obtain ⟨S, U, tx⟩ := F
  obtain ⟨T, qs⟩ := S
  have hC : isCl h c ((T, qs), U, tx) := hC
  obtain ⟨hkc, r0, r1, r2, r3, r4, r5, r6, r7, r8, hks, s0, s1, hkq, hkt⟩ := cl_f hC
  have hT : isTr h (c + 1 + 1) T := hC.2.1.2.1
  have oT : okTr T := hC.2.2.2.2.2.1.1
  have o9 := oT.o
  have n40 := o9.2.1
  have n1 := o9.1
  have gt0 : gi h (c + 1 + 1) 0 = (tn T : Int) := hT.2.1
  unfold opRew
  dsimp only
  have hkh : kd h (c + 309) = some (.inl 1) := hC.2.2.1.1.1
  by_cases c1 : 0 ≤ p ∧ p ≤ 3
  · rw [if_neg (fun z => z c1)]
    obtain ⟨u, rfl⟩ := Int.eq_ofNat_of_zero_le c1.1
    rw [Int.toNat_natCast]
    have hu : u < 4 := by omega
    have oq : okQ (qs u) ∧ lnQ (qs u) := hC.2.2.2.2.2.1.2 u hu
    by_cases d3 : qs u = []
    · rw [if_pos d3]
      refine Call.of (ls := [(0, vr (some c)), (1, vi (u : Int))]) vX11_rewrite.1 (Nat.le_of_ble_eq_true rfl) rfl ?_
      refine aw_aload_n dX11_rewrite_0 rfl ?_
      refine aw_iload_n dX11_rewrite_1 rfl ?_
      refine aw_invV_n dX11_rewrite_2 vX11_requirePlace kX11_156 rfl (c_rPlace (γ := γ) (h := h) hp c1) ⟨_, (by assumption), _, _, rfl⟩ rfl rfl (by decide) (by decide) (by decide) (Nat.le_of_ble_eq_true rfl) ?_
      refine aw_aload_n dX11_rewrite_5 rfl ?_
      refine aw_iload_n dX11_rewrite_6 rfl ?_
      exact aw_invV_x dX11_rewrite_7 vX11_requireQuery kX11_175 rfl (c_rQuery_x (γ := γ) hC hu hn (fun z => z d3)) ⟨_, (by assumption), _, _, rfl⟩ rfl rfl (by decide) (by decide) (by decide) (Nat.le_of_ble_eq_true rfl) (rC_err hC (by decide) rfl)
    · rw [if_neg d3]
      refine Call.of (ls := [(0, vr (some c)), (1, vi (u : Int))]) vX11_rewrite.1 (Nat.le_of_ble_eq_true rfl) rfl ?_
      refine aw_aload_n dX11_rewrite_0 rfl ?_
      refine aw_iload_n dX11_rewrite_1 rfl ?_
      refine aw_invV_n dX11_rewrite_2 vX11_requirePlace kX11_156 rfl (c_rPlace (γ := γ) (h := h) hp c1) ⟨_, (by assumption), _, _, rfl⟩ rfl rfl (by decide) (by decide) (by decide) (Nat.le_of_ble_eq_true rfl) ?_
      refine aw_aload_n dX11_rewrite_5 rfl ?_
      refine aw_iload_n dX11_rewrite_6 rfl ?_
      refine aw_invV_n dX11_rewrite_7 vX11_requireQuery kX11_175 rfl (c_rQuery (γ := γ) hC hu d3) ⟨_, (by assumption), _, _, rfl⟩ rfl rfl (by decide) (by decide) (by decide) (Nat.le_of_ble_eq_true rfl) ?_
      refine aw_aload_n dX11_rewrite_10 rfl ?_
      refine aw_getr' (j := 1) dX11_rewrite_11 fX11_19 rfl (by assumption) rfl (by assumption) ?_
      refine aw_aload_n dX11_rewrite_14 rfl ?_
      refine aw_getr' (j := 0) dX11_rewrite_15 fX11_12 rfl (by assumption) rfl (by assumption) ?_
      refine aw_invV_f dX11_rewrite_18 vX2_push kX11_90 rfl (c_sav hC) ⟨_, (by assumption), _, _, rfl⟩ rfl rfl (by decide) (by decide) (by decide) (Nat.le_of_ble_eq_true rfl) (fun H1 hP9 => ?_)
      obtain ⟨C1, E1⟩ := hP9
      have C1 : isCl H1 c ((T, qs), psh U (T, qs), tx) := C1
      obtain ⟨hkc', r0', r1', r2', r3', r4', r5', r6', r7', r8', hks', s0', s1', hkq', hkt'⟩ := cl_f C1
      obtain ⟨rq, π, ρ, hQ⟩ := cl_q C1 hu
      have hQ : isQ H1 (c + 1 + 12 + 74 * u) π ρ (qs u) := hQ
      have hU := C1.2.2.2.2.1.2.2.2.1
      have hku := hU.1
      have KR := c_run (γ := γ) (by omega) hU.U hQ oq.1 (one_le d3)
      refine aw_aload_n dX11_rewrite_21 rfl ?_
      refine aw_getr' (j := 6) dX11_rewrite_22 fX11_52 rfl (by assumption) rfl (by assumption) ?_
      refine aw_aload_n dX11_rewrite_25 rfl ?_
      refine aw_getr' (j := 0) dX11_rewrite_26 fX11_12 rfl (by assumption) rfl (by assumption) ?_
      refine aw_getr' (j := 1) dX11_rewrite_29 fX11_163 rfl (by assumption) rfl (by assumption) ?_
      refine aw_iload_n dX11_rewrite_32 rfl ?_
      refine aw_aald5' dX11_rewrite_33 (by assumption) (by omega) (by first | decide | omega) rq ?_
      refine aw_invV_f dX11_rewrite_34 vX6_run kX11_218 rfl (KR) ⟨_, (by assumption), _, _, rfl⟩ rfl rfl (by decide) (by decide) (by decide) (Nat.le_of_ble_eq_true rfl) (fun H2 hP9 => ?_)
      obtain ⟨π', ρ', U2, Q2, O2, E2⟩ := hP9
      have C2 : isCl H2 c (upQ (T, qs) u (rwQ (qs u)).1, psh U (T, qs), tx) := C1.qw hu E2 U2.s Q2 O2 (ln_rwQ oq.2)
      obtain ⟨hkc2, -, -, -, -, -, -, r62, -⟩ := cl_f C2
      have hku2 := U2.1
      have EE : eqO h H2 c (c + 1704) := (E1.mono (by omega) (by omega)).tr (E2.O (by omega) (by omega))
      refine aw_aload_n dX11_rewrite_37 rfl ?_
      refine aw_getr' (j := 6) dX11_rewrite_38 fX11_52 rfl (by assumption) rfl (by assumption) ?_
      refine aw_invV_r dX11_rewrite_41 vX6_total kX11_221 rfl (c_tot (γ := γ) U2) ⟨_, (by assumption), _, _, rfl⟩ rfl rfl (by decide) (by decide) (by decide) (Nat.le_of_ble_eq_true rfl) ?_
      exact aw_ireturn dX11_rewrite_44 rfl (Or.inr (EE.1.trans hn)) (rC_ok C2 EE)
  · rw [if_pos c1]
    refine Call.of (ls := [(0, vr (some c)), (1, vi p)]) vX11_rewrite.1 (Nat.le_of_ble_eq_true rfl) rfl ?_
    refine aw_aload_n dX11_rewrite_0 rfl ?_
    refine aw_iload_n dX11_rewrite_1 rfl ?_
    exact aw_invV_x dX11_rewrite_2 vX11_requirePlace kX11_156 rfl (c_rPlace_x (γ := γ) (h := h) hp hn c1) ⟨_, (by assumption), _, _, rfl⟩ rfl rfl (by decide) (by decide) (by decide) (Nat.le_of_ble_eq_true rfl) (rC_err hC (by decide) rfl)
theorem c_uses {γ : GG} {h : AH} {c : Nat} {F : FS} {p r : Int} (hC : isCl h c F) (hn : nx h = none) (hp : (-2147483648 ≤ p ∧ p ≤ 2147483647)) (hr : (-2147483648 ≤ r ∧ r ≤ 2147483647)) : Call γ mX11_uses 8 1 6 [vr (some c), vi p, vi r] h (rC9 h c [xnIO, xnIA, xnIS] (opUse F p r)) := by
  obtain ⟨S, U, tx⟩ := F
  obtain ⟨T, qs⟩ := S
  have hC : isCl h c ((T, qs), U, tx) := hC
  obtain ⟨hkc, r0, r1, r2, r3, r4, r5, r6, r7, r8, hks, s0, s1, hkq, hkt⟩ := cl_f hC
  have hT : isTr h (c + 1 + 1) T := hC.2.1.2.1
  have oT : okTr T := hC.2.2.2.2.2.1.1
  have o9 := oT.o
  have n40 := o9.2.1
  have n1 := o9.1
  have gt0 : gi h (c + 1 + 1) 0 = (tn T : Int) := hT.2.1
  unfold opUse
  dsimp only
  have hkh : kd h (c + 309) = some (.inl 1) := hC.2.2.1.1.1
  by_cases c1 : 0 ≤ p ∧ p ≤ 3
  · rw [if_neg (fun z => z c1)]
    by_cases d2 : 1 ≤ r ∧ r ≤ 9
    · rw [if_neg (fun z => z d2)]
      obtain ⟨u, rfl⟩ := Int.eq_ofNat_of_zero_le c1.1
      obtain ⟨y, rfl⟩ := Int.eq_ofNat_of_zero_le (show 0 ≤ r by omega)
      rw [Int.toNat_natCast, Int.toNat_natCast]
      have hu : u < 4 := by omega
      have oq : okQ (qs u) ∧ lnQ (qs u) := hC.2.2.2.2.2.1.2 u hu
      by_cases d3 : qs u = []
      · rw [if_pos d3]
        refine Call.of (ls := [(0, vr (some c)), (1, vi (u : Int)), (2, vi (y : Int))]) vX11_uses.1 (Nat.le_of_ble_eq_true rfl) rfl ?_
        refine aw_aload_n dX11_uses_0 rfl ?_
        refine aw_iload_n dX11_uses_1 rfl ?_
        refine aw_invV_n dX11_uses_2 vX11_requirePlace kX11_156 rfl (c_rPlace (γ := γ) (h := h) hp c1) ⟨_, (by assumption), _, _, rfl⟩ rfl rfl (by decide) (by decide) (by decide) (Nat.le_of_ble_eq_true rfl) ?_
        refine aw_iload_n dX11_uses_5 rfl ?_
        refine aw_iconst dX11_uses_6 ?_
        refine aw_ic_lt (tgt := 16) dX11_uses_7 rfl (by omega) (by omega) (fun c7 => ?_) (fun c7 => ?_)
        · exact absurd c7 (by omega)
        · refine aw_iload_n dX11_uses_10 rfl ?_
          refine aw_bipush dX11_uses_11 rfl ?_
          refine aw_ic_le (tgt := 26) dX11_uses_13 rfl (by omega) (by omega) (fun c13 => ?_) (fun c13 => ?_)
          · refine aw_aload_n dX11_uses_26 rfl ?_
            refine aw_iload_n dX11_uses_27 rfl ?_
            exact aw_invV_x dX11_uses_28 vX11_requireQuery kX11_175 rfl (c_rQuery_x (γ := γ) hC hu hn (fun z => z d3)) ⟨_, (by assumption), _, _, rfl⟩ rfl rfl (by decide) (by decide) (by decide) (Nat.le_of_ble_eq_true rfl) (rC_err hC (by decide) rfl)
          · exact absurd c13 (by omega)
      · rw [if_neg d3]
        obtain ⟨rq, π, ρ, hQ⟩ := cl_q hC hu
        have hQ : isQ h (c + 1 + 12 + 74 * u) π ρ (qs u) := hQ
        have hkq9 := hQ.1.1
        obtain ⟨πd, ρd, hD⟩ := hC.2.2.2.2.1.2.1
        have hkd := hD.1
        refine Call.of (ls := [(0, vr (some c)), (1, vi (u : Int)), (2, vi (y : Int))]) vX11_uses.1 (Nat.le_of_ble_eq_true rfl) rfl ?_
        refine aw_aload_n dX11_uses_0 rfl ?_
        refine aw_iload_n dX11_uses_1 rfl ?_
        refine aw_invV_n dX11_uses_2 vX11_requirePlace kX11_156 rfl (c_rPlace (γ := γ) (h := h) hp c1) ⟨_, (by assumption), _, _, rfl⟩ rfl rfl (by decide) (by decide) (by decide) (Nat.le_of_ble_eq_true rfl) ?_
        refine aw_iload_n dX11_uses_5 rfl ?_
        refine aw_iconst dX11_uses_6 ?_
        refine aw_ic_lt (tgt := 16) dX11_uses_7 rfl (by omega) (by omega) (fun c7 => ?_) (fun c7 => ?_)
        · exact absurd c7 (by omega)
        · refine aw_iload_n dX11_uses_10 rfl ?_
          refine aw_bipush dX11_uses_11 rfl ?_
          refine aw_ic_le (tgt := 26) dX11_uses_13 rfl (by omega) (by omega) (fun c13 => ?_) (fun c13 => ?_)
          · refine aw_aload_n dX11_uses_26 rfl ?_
            refine aw_iload_n dX11_uses_27 rfl ?_
            refine aw_invV_n dX11_uses_28 vX11_requireQuery kX11_175 rfl (c_rQuery (γ := γ) hC hu d3) ⟨_, (by assumption), _, _, rfl⟩ rfl rfl (by decide) (by decide) (by decide) (Nat.le_of_ble_eq_true rfl) ?_
            refine aw_aload_n dX11_uses_31 rfl ?_
            refine aw_getr' (j := 4) dX11_uses_32 fX11_38 rfl (by assumption) rfl (by assumption) ?_
            refine aw_aload_n dX11_uses_35 rfl ?_
            refine aw_getr' (j := 0) dX11_uses_36 fX11_12 rfl (by assumption) rfl (by assumption) ?_
            refine aw_getr' (j := 1) dX11_uses_39 fX11_163 rfl (by assumption) rfl (by assumption) ?_
            refine aw_iload_n dX11_uses_42 rfl ?_
            refine aw_aald5' dX11_uses_43 (by assumption) (by omega) (by first | decide | omega) rq ?_
            refine aw_invV_f dX11_uses_44 vX5_copyFrom kX11_170 rfl (c_qcopy (γ := γ) hD hQ (by omega)) ⟨_, (by assumption), _, _, rfl⟩ rfl rfl (by decide) (by decide) (by decide) (Nat.le_of_ble_eq_true rfl) (fun H1 hP9 => ?_)
            obtain ⟨D1, E1⟩ := hP9
            have C1 : isCl H1 c ((T, qs), U, tx) := hC.wk (fun b b1 b2 => E1.2 b (by omega)) (hC.2.2.2.2.1.dr E1 ⟨_, _, D1.1⟩)
            obtain ⟨hkc', r0', r1', r2', r3', r4', r5', r6', r7', r8', hks', s0', s1', hkq', hkt'⟩ := cl_f C1
            have hU := C1.2.2.2.2.1.2.2.2.1
            have hku := hU.1
            have KR := c_run (γ := γ) (by omega) hU.U D1 oq.1 (one_le d3)
            refine aw_aload_n dX11_uses_47 rfl ?_
            refine aw_getr' (j := 6) dX11_uses_48 fX11_52 rfl (by assumption) rfl (by assumption) ?_
            refine aw_aload_n dX11_uses_51 rfl ?_
            refine aw_getr' (j := 4) dX11_uses_52 fX11_38 rfl (by assumption) rfl (by assumption) ?_
            refine aw_invV_f dX11_uses_55 vX6_run kX11_218 rfl (KR) ⟨_, (by assumption), _, _, rfl⟩ rfl rfl (by decide) (by decide) (by decide) (Nat.le_of_ble_eq_true rfl) (fun H2 hP9 => ?_)
            obtain ⟨π', ρ', U2, Q2, O2, E2⟩ := hP9
            have C2 : isCl H2 c ((T, qs), U, tx) := C1.wk (fun b b1 b2 => E2.2 b (by omega) (by omega)) (C1.2.2.2.2.1.du E2 ⟨_, _, Q2.1⟩ U2.s)
            obtain ⟨hkc2, -, -, -, -, -, -, r62, -⟩ := cl_f C2
            have gu := U2.2.2.2 y (by omega) (by omega)
            have ru := U2.2.1
            have ku := U2.2.2.1
            have hku2 := U2.1
            have EE : eqO h H2 c (c + 1704) := (E1.mono (by omega) (by omega)).tr (E2.O (by omega) (by omega))
            refine aw_aload_n dX11_uses_58 rfl ?_
            refine aw_getr' (j := 6) dX11_uses_59 fX11_52 rfl (by assumption) rfl (by assumption) ?_
            refine aw_getr' (j := 0) dX11_uses_62 fX11_230 rfl (by assumption) rfl (by assumption) ?_
            refine aw_iload_n dX11_uses_65 rfl ?_
            refine aw_iald' dX11_uses_66 (by assumption) (by omega) (by first | decide | omega) gu ?_
            exact aw_ireturn dX11_uses_67 rfl (Or.inr (EE.1.trans hn)) (rC_ok C2 EE)
          · exact absurd c13 (by omega)
    · rw [if_pos d2]
      by_cases d4 : r < 1
      · refine Call.of (ls := [(0, vr (some c)), (1, vi p), (2, vi r)]) vX11_uses.1 (Nat.le_of_ble_eq_true rfl) rfl ?_
        refine aw_aload_n dX11_uses_0 rfl ?_
        refine aw_iload_n dX11_uses_1 rfl ?_
        refine aw_invV_n dX11_uses_2 vX11_requirePlace kX11_156 rfl (c_rPlace (γ := γ) (h := h) hp c1) ⟨_, (by assumption), _, _, rfl⟩ rfl rfl (by decide) (by decide) (by decide) (Nat.le_of_ble_eq_true rfl) ?_
        refine aw_iload_n dX11_uses_5 rfl ?_
        refine aw_iconst dX11_uses_6 ?_
        refine aw_ic_lt (tgt := 16) dX11_uses_7 rfl (by omega) (by omega) (fun c7 => ?_) (fun c7 => ?_)
        · exact aw_throw (twIA 227) rfl (List.mem_of_getElem? (i := 10) rfl) rfl dX11_uses_16 dX11_uses_19 dX11_uses_20 dX11_uses_22 dX11_uses_25 (by decide) (Nat.le_of_ble_eq_true rfl) (by decide) (by decide) hn (rC_err hC (by decide) rfl)
        · exact absurd c7 (by omega)
      · refine Call.of (ls := [(0, vr (some c)), (1, vi p), (2, vi r)]) vX11_uses.1 (Nat.le_of_ble_eq_true rfl) rfl ?_
        refine aw_aload_n dX11_uses_0 rfl ?_
        refine aw_iload_n dX11_uses_1 rfl ?_
        refine aw_invV_n dX11_uses_2 vX11_requirePlace kX11_156 rfl (c_rPlace (γ := γ) (h := h) hp c1) ⟨_, (by assumption), _, _, rfl⟩ rfl rfl (by decide) (by decide) (by decide) (Nat.le_of_ble_eq_true rfl) ?_
        refine aw_iload_n dX11_uses_5 rfl ?_
        refine aw_iconst dX11_uses_6 ?_
        refine aw_ic_lt (tgt := 16) dX11_uses_7 rfl (by omega) (by omega) (fun c7 => ?_) (fun c7 => ?_)
        · exact absurd c7 (by omega)
        · refine aw_iload_n dX11_uses_10 rfl ?_
          refine aw_bipush dX11_uses_11 rfl ?_
          refine aw_ic_le (tgt := 26) dX11_uses_13 rfl (by omega) (by omega) (fun c13 => ?_) (fun c13 => ?_)
          · exact absurd c13 (by omega)
          · exact aw_throw (twIA 227) rfl (List.mem_of_getElem? (i := 10) rfl) rfl dX11_uses_16 dX11_uses_19 dX11_uses_20 dX11_uses_22 dX11_uses_25 (by decide) (Nat.le_of_ble_eq_true rfl) (by decide) (by decide) hn (rC_err hC (by decide) rfl)
  · rw [if_pos c1]
    refine Call.of (ls := [(0, vr (some c)), (1, vi p), (2, vi r)]) vX11_uses.1 (Nat.le_of_ble_eq_true rfl) rfl ?_
    refine aw_aload_n dX11_uses_0 rfl ?_
    refine aw_iload_n dX11_uses_1 rfl ?_
    exact aw_invV_x dX11_uses_2 vX11_requirePlace kX11_156 rfl (c_rPlace_x (γ := γ) (h := h) hp hn c1) ⟨_, (by assumption), _, _, rfl⟩ rfl rfl (by decide) (by decide) (by decide) (Nat.le_of_ble_eq_true rfl) (rC_err hC (by decide) rfl)
