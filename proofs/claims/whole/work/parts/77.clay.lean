/-! ===== Tree: lay, relay, the two loops of arrange ===== -/
def LY (t : Nat) : Nat → Prop := fun b => b = t + 7 ∨ b = t + 8
def LI (H : AH) (t : Nat) (od : Nat → Nat) (c : Nat) : Prop := (∀ j, j < c → gi H (t + 7) j = od j) ∧ ∀ j, j < c → gi H (t + 8) (od j) = j
def hLy (H : AH) (t v c : Nat) : AH := si (si H (t + 7) c v) (t + 8) v c
theorem eqT_ly {H : AH} {t v c : Nat} : eqT (LY t) H (hLy H t v c) := (eqT.wi (Or.inl rfl)).tr (eqT.wi (Or.inr rfl))
theorem LI_step {H : AH} {t c v : Nat} {od : Nat → Nat} (h : LI H t od c) (hv : od c = v) (hi : ∀ j, j < c → od j ≠ od c) : LI (hLy H t v c) t od (c + 1) := by
  unfold hLy
  refine ⟨fun j hj => ?_, fun j hj => ?_⟩
  · rw [gi_ne (Or.inl (by omega))]
    by_cases q : j = c
    · subst q
      exact (gi_at rfl rfl).trans (by omega)
    · exact (gi_ne (Or.inr (by omega))).trans (h.1 j (by omega))
  · by_cases q : j = c
    · subst q
      exact gi_at rfl (by omega)
    · have := hi j (by omega)
      exact (gi_ne (Or.inr (by omega))).trans ((gi_ne (Or.inl (by omega))).trans (h.2 j (by omega)))
theorem c_lay {γ : GG} {t v c : Nat} {h : AH} (hS : shTr h t) (hv : v < 40) (hc : c < 40) : Call γ mX10_lay 0 0 0 [vr (some t), vi (v : Int), vi (c : Int)] h (rV (vi ((c + 1 : Nat) : Int)) (hLy h t v c)) := by
  obtain ⟨hk, ⟨r1, k1⟩, ⟨r2, k2⟩, ⟨r3, k3⟩, ⟨r4, k4⟩, ⟨r5, k5⟩, ⟨r6, k6⟩, ⟨r7, k7⟩, ⟨r8, k8⟩, ⟨r9, k9⟩⟩ := hS
  refine Call.of (ls := [(0, vr (some t)), (1, vi (v : Int)), (2, vi (c : Int))]) vX10_lay.1 (Nat.le_of_ble_eq_true rfl) rfl ?_
  refine aw_iload_n dX10_lay_0 rfl ?_
  refine aw_if_lt (tgt := 20) dX10_lay_1 rfl (by omega) (fun c1 => ?_) (fun c1 => ?_)
  · exact absurd c1 (by omega)
  · refine aw_iload_n dX10_lay_4 rfl ?_
    refine aw_bipush dX10_lay_5 rfl ?_
    refine aw_ic_ge (tgt := 20) dX10_lay_7 rfl (by omega) (by omega) (fun c7 => ?_) (fun c7 => ?_)
    · exact absurd c7 (by omega)
    · refine aw_iload_n dX10_lay_10 rfl ?_
      refine aw_if_lt (tgt := 20) dX10_lay_11 rfl (by omega) (fun c11 => ?_) (fun c11 => ?_)
      · exact absurd c11 (by omega)
      · refine aw_iload_n dX10_lay_14 rfl ?_
        refine aw_bipush dX10_lay_15 rfl ?_
        refine aw_ic_lt (tgt := 22) dX10_lay_17 rfl (by omega) (by omega) (fun c17 => ?_) (fun c17 => ?_)
        · refine aw_aload_n dX10_lay_22 rfl ?_
          refine aw_getr' (j := 7) dX10_lay_23 fX10_35 rfl (by assumption) rfl (by assumption) ?_
          refine aw_iload_n dX10_lay_26 rfl ?_
          refine aw_iload_n dX10_lay_27 rfl ?_
          refine aw_iast dX10_lay_28 (by assumption) (by omega) (by first | decide | omega) ?_
          refine aw_aload_n dX10_lay_29 rfl ?_
          refine aw_getr' (j := 8) dX10_lay_30 fX10_38 rfl (by assumption) rfl (by assumption) ?_
          refine aw_iload_n dX10_lay_33 rfl ?_
          refine aw_iload_n dX10_lay_34 rfl ?_
          refine aw_iast dX10_lay_35 (by assumption) (by omega) (by first | decide | omega) ?_
          refine aw_iload_n dX10_lay_36 rfl ?_
          refine aw_iconst dX10_lay_37 ?_
          refine aw_iadd dX10_lay_38 ?_
          exact aw_ireturn dX10_lay_39 rfl (Or.inl rfl) ⟨rfl, rfl⟩
        · exact absurd c17 (by omega)
theorem l_relay {γ : GG} {t r n : Nat} {od : Nat → Nat} {h : AH} (hS : shTr h t) (hr : r = 1 ∨ r = 2 ∨ r = 3) (hn : n ≤ 40) (ho : ∀ k, k < n → gi h (t + 7) k = od k ∧ od k < 40) : ∀ (m k : Nat) (H : AH), k + m = n → eqT (fun b => b = t + 9) h H → (∀ j, j < k → gi H (t + 9) j = gi h (t + r) (od j)) → AW γ mX10_relay 1 0 0 2 [(3, vi (k : Int)), (0, vr (some t)), (1, vr (some (t + r))), (2, vi (n : Int))] [] H (rF (fun h' => eqT (fun b => b = t + r ∨ b = t + 9) h h' ∧ ∀ k, k < n → gi h' (t + r) k = gi h (t + r) (od k))) := by
  intro m
  induction m with
  | zero =>
    intro k H hkm hE hI
    obtain rfl : k = n := by omega
    obtain ⟨hk, ⟨r1, k1⟩, ⟨r2, k2⟩, ⟨r3, k3⟩, ⟨r4, k4⟩, ⟨r5, k5⟩, ⟨r6, k6⟩, ⟨r7, k7⟩, ⟨r8, k8⟩, ⟨r9, k9⟩⟩ := hE.shTr hS
    have kr : kd H (t + r) = some (.inr (1, 40)) := by rcases hr with rfl | rfl | rfl <;> assumption
    have hh : eqT (fun b => b = t + r ∨ b = t + 9) h (cpI H (t + 9) 0 (t + r) 0 (k : Int)) ∧ ∀ j, j < k → gi (cpI H (t + 9) 0 (t + r) 0 (k : Int)) (t + r) j = gi h (t + r) (od j) := by
      refine ⟨(hE.mono (fun b hb => Or.inr hb)).tr ⟨rfl, fun b => ⟨rfl, fun _ => rfl, fun q j => ⟨?_, rfl⟩⟩⟩, fun j hj => ?_⟩
      · rw [gi_cpI, if_neg (fun z => q (Or.inl z.1))]
      · rw [gi_cpI, if_pos ⟨rfl, by omega, by omega⟩, show (0 : Int) + ((j : Int) - 0) = j by omega]
        exact hI j hj
    refine aw_iload_n dX10_relay_2 rfl ?_
    refine aw_iload_n dX10_relay_3 rfl ?_
    refine aw_ic_ge (tgt := 27) dX10_relay_4 rfl (by omega) (by omega) (fun c4 => ?_) (fun c4 => ?_)
    · refine aw_aload_n dX10_relay_27 rfl ?_
      refine aw_getr' (j := 9) dX10_relay_28 fX10_41 rfl (by assumption) rfl (by assumption) ?_
      refine aw_iconst dX10_relay_31 ?_
      refine aw_aload_n dX10_relay_32 rfl ?_
      refine aw_iconst dX10_relay_33 ?_
      refine aw_iload_n dX10_relay_34 rfl ?_
      refine aw_copyI dX10_relay_35 aX10_44 (by assumption) kr (by decide) (by decide) (by omega) (by decide) (Nat.le_of_ble_eq_true rfl) ?_
      exact aw_return dX10_relay_38 rfl (Or.inl rfl) ⟨rfl, hh⟩
    · exact absurd c4 (by omega)
  | succ m ih =>
    intro k H hkm hE hI
    obtain ⟨hk, ⟨r1, k1⟩, ⟨r2, k2⟩, ⟨r3, k3⟩, ⟨r4, k4⟩, ⟨r5, k5⟩, ⟨r6, k6⟩, ⟨r7, k7⟩, ⟨r8, k8⟩, ⟨r9, k9⟩⟩ := hE.shTr hS
    have kr : kd H (t + r) = some (.inr (1, 40)) := by rcases hr with rfl | rfl | rfl <;> assumption
    obtain ⟨q1, q2⟩ := ho k (by omega)
    have e1 : gi H (t + 7) k = od k := ((hE.2 (t + 7)).2.2 (by omega) k).1.trans q1
    have e2 : gi H (t + r) (od k) = gi h (t + r) (od k) := ((hE.2 (t + r)).2.2 (by omega) (od k)).1
    have I := ih (k + 1) (si H (t + 9) k (gi h (t + r) (od k))) (by omega) (hE.tr (eqT.wi rfl)) (fun j hj => by
      by_cases q : j = k
      · subst q; exact gi_at rfl rfl
      · exact (gi_ne (Or.inr (by omega))).trans (hI j (by omega)))
    refine aw_iload_n dX10_relay_2 rfl ?_
    refine aw_iload_n dX10_relay_3 rfl ?_
    refine aw_ic_ge (tgt := 27) dX10_relay_4 rfl (by omega) (by omega) (fun c4 => ?_) (fun c4 => ?_)
    · exact absurd c4 (by omega)
    · refine aw_aload_n dX10_relay_7 rfl ?_
      refine aw_getr' (j := 9) dX10_relay_8 fX10_41 rfl (by assumption) rfl (by assumption) ?_
      refine aw_iload_n dX10_relay_11 rfl ?_
      refine aw_aload_n dX10_relay_12 rfl ?_
      refine aw_aload_n dX10_relay_13 rfl ?_
      refine aw_getr' (j := 7) dX10_relay_14 fX10_35 rfl (by assumption) rfl (by assumption) ?_
      refine aw_iload_n dX10_relay_17 rfl ?_
      refine aw_iald' dX10_relay_18 (by assumption) (by omega) (by first | decide | omega) e1 ?_
      refine aw_iald' dX10_relay_19 kr (by omega) (by first | decide | omega) e2 ?_
      refine aw_iast dX10_relay_20 (by assumption) (by omega) (by first | decide | omega) ?_
      refine aw_iinc (k9 := 0) (ls1 := [(3, _), (0, _), (1, _), (2, _)]) dX10_relay_21 rfl (by decide) rfl ?_
      refine aw_goto (tgt := 2) dX10_relay_24 rfl ?_
      refine aw_sub [0, 1, 2, 3] rfl ?_
      exact I
theorem c_relay {γ : GG} {t r n : Nat} {od : Nat → Nat} {h : AH} (hS : shTr h t) (hr : r = 1 ∨ r = 2 ∨ r = 3) (hn : n ≤ 40) (ho : ∀ k, k < n → gi h (t + 7) k = od k ∧ od k < 40) : Call γ mX10_relay 1 0 0 [vr (some t), vr (some (t + r)), vi (n : Int)] h (rF (fun h' => eqT (fun b => b = t + r ∨ b = t + 9) h h' ∧ ∀ k, k < n → gi h' (t + r) k = gi h (t + r) (od k))) := by
  have L := l_relay (γ := γ) hS hr hn ho n 0 h (by omega) eqT.rf (fun j hj => absurd hj (by omega))
  refine Call.of (ls := [(0, vr (some t)), (1, vr (some (t + r))), (2, vi (n : Int))]) vX10_relay.1 (Nat.le_of_ble_eq_true rfl) rfl ?_
  refine aw_iconst dX10_relay_0 ?_
  refine aw_istore_n (ls1 := [(3, _), (0, _), (1, _), (2, _)]) dX10_relay_1 (by decide) rfl ?_
  refine aw_sub [0, 1, 2, 3] rfl ?_
  exact L
/-- how the nodes are laid anew: the block from f, of m nodes, behind b -/
def arO (L f m N : Nat) (b : Int) (ct od : Nat → Nat) : Prop := f + m ≤ L ∧ L ≤ 40 ∧ N ≤ 40 ∧ -1 ≤ b ∧ b ≤ 40 ∧ ct 0 = 0 ∧ ct L = N ∧ (∀ v, v < L → (v < f ∨ f + m ≤ v) → od (ct v) = v ∧ ct v < N) ∧ (∀ v, v < L → ¬ (v < f ∨ f + m ≤ v) → ((v : Int) ≠ b → ct (v + 1) = ct v) ∧ ((v : Int) = b → ct (v + 1) = ct v + m ∧ ct v + m ≤ N ∧ ∀ j, j < m → od (ct v + j) = f + j)) ∧ (∀ v, v < L → (v < f ∨ f + m ≤ v) → (v : Int) ≠ b → ct (v + 1) = ct v + 1) ∧ (∀ v, v < L → (v < f ∨ f + m ≤ v) → (v : Int) = b → ct (v + 1) = ct v + 1 + m ∧ ct v + 1 + m ≤ N ∧ ∀ j, j < m → od (ct v + 1 + j) = f + j) ∧ (∀ i j, i < j → j < N → od i ≠ od j) ∧ ∀ j, j < N → od j < L
theorem l_blk {γ : GG} {t f m c v N : Nat} {b : Int} {od : Nat → Nat} {h : AH} {Q : AR → AH → Prop} (hS : shTr h t) (hf : f + m ≤ 40) (hc : c + m ≤ N) (hN : N ≤ 40) (hi : ∀ i j, i < j → j < N → od i ≠ od j) (hod : ∀ j, j < m → od (c + j) = f + j) (kk : ∀ H, eqT (LY t) h H → LI H t od (c + m) → AW γ mX10_arrange 2 0 0 68 [(4, vi ((c + m : Nat) : Int)), (5, vi (v : Int)), (0, vr (some t)), (1, vi (f : Int)), (2, vi ((f + m : Nat) : Int)), (3, vi b)] [] H Q) : ∀ (g j : Nat) (H : AH), j + g = m → eqT (LY t) h H → LI H t od (c + j) → AW γ mX10_arrange 2 0 0 46 [(6, vi ((f + j : Nat) : Int)), (4, vi ((c + j : Nat) : Int)), (5, vi (v : Int)), (0, vr (some t)), (1, vi (f : Int)), (2, vi ((f + m : Nat) : Int)), (3, vi b)] [] H Q := by
  intro g
  induction g with
  | zero =>
    intro j H hj hE hI
    obtain rfl : j = m := by omega
    have hS1 := hE.shTr hS
    obtain ⟨hk, ⟨r1, k1⟩, ⟨r2, k2⟩, ⟨r3, k3⟩, ⟨r4, k4⟩, ⟨r5, k5⟩, ⟨r6, k6⟩, ⟨r7, k7⟩, ⟨r8, k8⟩, ⟨r9, k9⟩⟩ := hS1
    have K := kk H hE hI
    refine aw_iload dX10_arrange_46 rfl ?_
    refine aw_iload_n dX10_arrange_48 rfl ?_
    refine aw_ic_ge (tgt := 68) dX10_arrange_49 rfl (by omega) (by omega) (fun c49 => ?_) (fun c49 => ?_)
    · refine aw_sub [1, 2, 3, 4, 5, 6] rfl ?_
      exact K
    · exact absurd c49 (by omega)
  | succ g ih =>
    intro j H hj hE hI
    have hS1 := hE.shTr hS
    have CL := c_lay (γ := γ) (v := f + j) (c := c + j) hS1 (by omega) (by omega)
    have I := ih (j + 1) (hLy H t (f + j) (c + j)) (by omega) (hE.tr eqT_ly) (LI_step hI (hod j (by omega)) (fun i hi2 => hi i (c + j) hi2 (by omega)))
    obtain ⟨hk, ⟨r1, k1⟩, ⟨r2, k2⟩, ⟨r3, k3⟩, ⟨r4, k4⟩, ⟨r5, k5⟩, ⟨r6, k6⟩, ⟨r7, k7⟩, ⟨r8, k8⟩, ⟨r9, k9⟩⟩ := hS1
    refine aw_iload dX10_arrange_46 rfl ?_
    refine aw_iload_n dX10_arrange_48 rfl ?_
    refine aw_ic_ge (tgt := 68) dX10_arrange_49 rfl (by omega) (by omega) (fun c49 => ?_) (fun c49 => ?_)
    · exact absurd c49 (by omega)
    · refine aw_aload_n dX10_arrange_52 rfl ?_
      refine aw_iload dX10_arrange_53 rfl ?_
      refine aw_iload dX10_arrange_55 rfl ?_
      refine aw_invV_r dX10_arrange_57 vX10_lay kX10_54 rfl (CL) ⟨_, (by assumption), _, _, rfl⟩ rfl rfl (by decide) (by decide) (by decide) (Nat.le_of_ble_eq_true rfl) ?_
      refine aw_istore (ls1 := [(4, _), (6, _), (5, _), (0, _), (1, _), (2, _), (3, _)]) dX10_arrange_60 (by decide) rfl ?_
      refine aw_iinc (k9 := 1) (ls1 := [(6, _), (4, _), (5, _), (0, _), (1, _), (2, _), (3, _)]) dX10_arrange_62 rfl (by decide) rfl ?_
      rw [show ((f + j : Nat) : Int) + 1 = ((f + (j + 1) : Nat) : Int) by omega]
      refine aw_goto (tgt := 46) dX10_arrange_65 rfl ?_
      refine aw_sub [0, 1, 2, 3, 4, 5, 6] rfl ?_
      exact I
theorem l_ar6 {γ : GG} {t L f m N : Nat} {b : Int} {ct od : Nat → Nat} {h : AH} {Q : AR → AH → Prop} (hS : shTr h t) (h0 : gi h t 0 = L) (hO : arO L f m N b ct od) (kk : ∀ H, eqT (LY t) h H → LI H t od N → AW γ mX10_arrange 2 0 0 74 [(4, vi (N : Int)), (0, vr (some t)), (1, vi (f : Int)), (2, vi ((f + m : Nat) : Int)), (3, vi b)] [] H Q) : ∀ (g v : Nat) (H : AH), v + g = L → eqT (LY t) h H → LI H t od (ct v) → AW γ mX10_arrange 2 0 0 6 [(5, vi (v : Int)), (4, vi ((ct v : Nat) : Int)), (0, vr (some t)), (1, vi (f : Int)), (2, vi ((f + m : Nat) : Int)), (3, vi b)] [] H Q := by
  obtain ⟨a1, a2, a3, a4, a5, a6, a7, a8, a9, a10, a11, a12, a13⟩ := hO
  intro g
  induction g with
  | zero =>
    intro v H hv hE hI
    obtain rfl : v = L := by omega
    have hS1 := hE.shTr hS
    have g0 := ((hE.2 t).2.2 (by unfold LY; omega) 0).1.trans h0
    obtain ⟨hk, ⟨r1, k1⟩, ⟨r2, k2⟩, ⟨r3, k3⟩, ⟨r4, k4⟩, ⟨r5, k5⟩, ⟨r6, k6⟩, ⟨r7, k7⟩, ⟨r8, k8⟩, ⟨r9, k9⟩⟩ := hS1
    rw [a7] at hI ⊢
    have K := kk H hE hI
    refine aw_iload dX10_arrange_6 rfl ?_
    refine aw_aload_n dX10_arrange_8 rfl ?_
    refine aw_geti' (j := 0) dX10_arrange_9 fX10_9 rfl (by assumption) rfl g0 ?_
    refine aw_ic_ge (tgt := 74) dX10_arrange_12 rfl (by omega) (by omega) (fun c12 => ?_) (fun c12 => ?_)
    · refine aw_sub [1, 2, 3, 4, 5] rfl ?_
      exact K
    · exact absurd c12 (by omega)
  | succ g ih =>
    intro v H hv hE hI
    have hS1 := hE.shTr hS
    have g0 := ((hE.2 t).2.2 (by unfold LY; omega) 0).1.trans h0
    by_cases q : v < f ∨ f + m ≤ v
    · obtain ⟨b1, b2⟩ := a8 v (by omega) q
      have CL := c_lay (γ := γ) (v := v) (c := ct v) hS1 (by omega) (by omega)
      have E1 : eqT (LY t) h (hLy H t v (ct v)) := hE.tr eqT_ly
      have I1 := LI_step hI b1 (fun i hi2 => a12 i (ct v) hi2 b2)
      have K37 : AW γ mX10_arrange 2 0 0 37 [(4, vi ((ct v + 1 : Nat) : Int)), (5, vi (v : Int)), (0, vr (some t)), (1, vi (f : Int)), (2, vi ((f + m : Nat) : Int)), (3, vi b)] [] (hLy H t v (ct v)) Q := by
        by_cases y : (v : Int) = b
        · obtain ⟨c1, c2, c3⟩ := a11 v (by omega) q y
          have BL := l_blk (γ := γ) (f := f) (m := m) (c := ct v + 1) (v := v) (N := N) (b := b) (od := od) (Q := Q) (hE.shTr hS) (by omega) c2 a3 a12 c3 (fun H2 hE2 hI2 => by
            have I := ih (v + 1) H2 (by omega) (hE.tr hE2) (by rw [c1]; exact hI2)
            rw [c1] at I
            refine aw_iinc (k9 := 1) (ls1 := [(5, _), (4, _), (0, _), (1, _), (2, _), (3, _)]) dX10_arrange_68 rfl (by decide) rfl ?_
            refine aw_goto (tgt := 6) dX10_arrange_71 rfl ?_
            refine aw_sub [0, 1, 2, 3, 4, 5] rfl ?_
            exact I) m 0 (hLy H t v (ct v)) (by omega) eqT_ly I1
          refine aw_iload dX10_arrange_37 rfl ?_
          refine aw_iload_n dX10_arrange_39 rfl ?_
          refine aw_ic_ne (tgt := 68) dX10_arrange_40 rfl (by omega) (by omega) (fun c40 => ?_) (fun c40 => ?_)
          · exact absurd c40 (by omega)
          · refine aw_iload_n dX10_arrange_43 rfl ?_
            refine aw_istore (ls1 := [(6, _), (4, _), (5, _), (0, _), (1, _), (2, _), (3, _)]) dX10_arrange_44 (by decide) rfl ?_
            refine aw_sub [0, 1, 2, 3, 4, 5, 6] rfl ?_
            exact BL
        · have c1 := a10 v (by omega) q y
          have I := ih (v + 1) (hLy H t v (ct v)) (by omega) E1 (by rw [c1]; exact I1)
          rw [c1] at I
          refine aw_iload dX10_arrange_37 rfl ?_
          refine aw_iload_n dX10_arrange_39 rfl ?_
          refine aw_ic_ne (tgt := 68) dX10_arrange_40 rfl (by omega) (by omega) (fun c40 => ?_) (fun c40 => ?_)
          · refine aw_iinc (k9 := 1) (ls1 := [(5, _), (4, _), (0, _), (1, _), (2, _), (3, _)]) dX10_arrange_68 rfl (by decide) rfl ?_
            refine aw_goto (tgt := 6) dX10_arrange_71 rfl ?_
            refine aw_sub [0, 1, 2, 3, 4, 5] rfl ?_
            exact I
          · exact absurd c40 (by omega)
      have K27 : AW γ mX10_arrange 2 0 0 27 [(5, vi (v : Int)), (4, vi ((ct v : Nat) : Int)), (0, vr (some t)), (1, vi (f : Int)), (2, vi ((f + m : Nat) : Int)), (3, vi b)] [] H Q := by
        obtain ⟨hk, ⟨r1, k1⟩, ⟨r2, k2⟩, ⟨r3, k3⟩, ⟨r4, k4⟩, ⟨r5, k5⟩, ⟨r6, k6⟩, ⟨r7, k7⟩, ⟨r8, k8⟩, ⟨r9, k9⟩⟩ := hS1
        refine aw_aload_n dX10_arrange_27 rfl ?_
        refine aw_iload dX10_arrange_28 rfl ?_
        refine aw_iload dX10_arrange_30 rfl ?_
        refine aw_invV_r dX10_arrange_32 vX10_lay kX10_54 rfl (CL) ⟨_, (by assumption), _, _, rfl⟩ rfl rfl (by decide) (by decide) (by decide) (Nat.le_of_ble_eq_true rfl) ?_
        refine aw_istore (ls1 := [(4, _), (5, _), (0, _), (1, _), (2, _), (3, _)]) dX10_arrange_35 (by decide) rfl ?_
        refine aw_sub [0, 1, 2, 3, 4, 5] rfl ?_
        exact K37
      obtain ⟨hk, ⟨r1, k1⟩, ⟨r2, k2⟩, ⟨r3, k3⟩, ⟨r4, k4⟩, ⟨r5, k5⟩, ⟨r6, k6⟩, ⟨r7, k7⟩, ⟨r8, k8⟩, ⟨r9, k9⟩⟩ := hS1
      by_cases y : v < f
      · refine aw_iload dX10_arrange_6 rfl ?_
        refine aw_aload_n dX10_arrange_8 rfl ?_
        refine aw_geti' (j := 0) dX10_arrange_9 fX10_9 rfl (by assumption) rfl g0 ?_
        refine aw_ic_ge (tgt := 74) dX10_arrange_12 rfl (by omega) (by omega) (fun c12 => ?_) (fun c12 => ?_)
        · exact absurd c12 (by omega)
        · refine aw_iload dX10_arrange_15 rfl ?_
          refine aw_iload_n dX10_arrange_17 rfl ?_
          refine aw_ic_lt (tgt := 27) dX10_arrange_18 rfl (by omega) (by omega) (fun c18 => ?_) (fun c18 => ?_)
          · refine aw_sub [0, 1, 2, 3, 4, 5] rfl ?_
            exact K27
          · exact absurd c18 (by omega)
      · refine aw_iload dX10_arrange_6 rfl ?_
        refine aw_aload_n dX10_arrange_8 rfl ?_
        refine aw_geti' (j := 0) dX10_arrange_9 fX10_9 rfl (by assumption) rfl g0 ?_
        refine aw_ic_ge (tgt := 74) dX10_arrange_12 rfl (by omega) (by omega) (fun c12 => ?_) (fun c12 => ?_)
        · exact absurd c12 (by omega)
        · refine aw_iload dX10_arrange_15 rfl ?_
          refine aw_iload_n dX10_arrange_17 rfl ?_
          refine aw_ic_lt (tgt := 27) dX10_arrange_18 rfl (by omega) (by omega) (fun c18 => ?_) (fun c18 => ?_)
          · exact absurd c18 (by omega)
          · refine aw_iload dX10_arrange_21 rfl ?_
            refine aw_iload_n dX10_arrange_23 rfl ?_
            refine aw_ic_lt (tgt := 37) dX10_arrange_24 rfl (by omega) (by omega) (fun c24 => ?_) (fun c24 => ?_)
            · exact absurd c24 (by omega)
            · refine aw_sub [0, 1, 2, 3, 4, 5] rfl ?_
              exact K27
    · obtain ⟨b1, b2⟩ := a9 v (by omega) q
      by_cases y : (v : Int) = b
      · obtain ⟨c1, c2, c3⟩ := b2 y
        have BL := l_blk (γ := γ) (f := f) (m := m) (c := ct v) (v := v) (N := N) (b := b) (od := od) (Q := Q) hS1 (by omega) c2 a3 a12 c3 (fun H2 hE2 hI2 => by
          have I := ih (v + 1) H2 (by omega) (hE.tr hE2) (by rw [c1]; exact hI2)
          rw [c1] at I
          refine aw_iinc (k9 := 1) (ls1 := [(5, _), (4, _), (0, _), (1, _), (2, _), (3, _)]) dX10_arrange_68 rfl (by decide) rfl ?_
          refine aw_goto (tgt := 6) dX10_arrange_71 rfl ?_
          refine aw_sub [0, 1, 2, 3, 4, 5] rfl ?_
          exact I) m 0 H (by omega) eqT.rf hI
        obtain ⟨hk, ⟨r1, k1⟩, ⟨r2, k2⟩, ⟨r3, k3⟩, ⟨r4, k4⟩, ⟨r5, k5⟩, ⟨r6, k6⟩, ⟨r7, k7⟩, ⟨r8, k8⟩, ⟨r9, k9⟩⟩ := hS1
        refine aw_iload dX10_arrange_6 rfl ?_
        refine aw_aload_n dX10_arrange_8 rfl ?_
        refine aw_geti' (j := 0) dX10_arrange_9 fX10_9 rfl (by assumption) rfl g0 ?_
        refine aw_ic_ge (tgt := 74) dX10_arrange_12 rfl (by omega) (by omega) (fun c12 => ?_) (fun c12 => ?_)
        · exact absurd c12 (by omega)
        · refine aw_iload dX10_arrange_15 rfl ?_
          refine aw_iload_n dX10_arrange_17 rfl ?_
          refine aw_ic_lt (tgt := 27) dX10_arrange_18 rfl (by omega) (by omega) (fun c18 => ?_) (fun c18 => ?_)
          · exact absurd c18 (by omega)
          · refine aw_iload dX10_arrange_21 rfl ?_
            refine aw_iload_n dX10_arrange_23 rfl ?_
            refine aw_ic_lt (tgt := 37) dX10_arrange_24 rfl (by omega) (by omega) (fun c24 => ?_) (fun c24 => ?_)
            · refine aw_iload dX10_arrange_37 rfl ?_
              refine aw_iload_n dX10_arrange_39 rfl ?_
              refine aw_ic_ne (tgt := 68) dX10_arrange_40 rfl (by omega) (by omega) (fun c40 => ?_) (fun c40 => ?_)
              · exact absurd c40 (by omega)
              · refine aw_iload_n dX10_arrange_43 rfl ?_
                refine aw_istore (ls1 := [(6, _), (5, _), (4, _), (0, _), (1, _), (2, _), (3, _)]) dX10_arrange_44 (by decide) rfl ?_
                refine aw_sub [0, 2, 1, 3, 4, 5, 6] rfl ?_
                exact BL
            · exact absurd c24 (by omega)
      · have b3 := b1 y
        have I := ih (v + 1) H (by omega) hE (by rw [b3]; exact hI)
        rw [b3] at I
        obtain ⟨hk, ⟨r1, k1⟩, ⟨r2, k2⟩, ⟨r3, k3⟩, ⟨r4, k4⟩, ⟨r5, k5⟩, ⟨r6, k6⟩, ⟨r7, k7⟩, ⟨r8, k8⟩, ⟨r9, k9⟩⟩ := hS1
        refine aw_iload dX10_arrange_6 rfl ?_
        refine aw_aload_n dX10_arrange_8 rfl ?_
        refine aw_geti' (j := 0) dX10_arrange_9 fX10_9 rfl (by assumption) rfl g0 ?_
        refine aw_ic_ge (tgt := 74) dX10_arrange_12 rfl (by omega) (by omega) (fun c12 => ?_) (fun c12 => ?_)
        · exact absurd c12 (by omega)
        · refine aw_iload dX10_arrange_15 rfl ?_
          refine aw_iload_n dX10_arrange_17 rfl ?_
          refine aw_ic_lt (tgt := 27) dX10_arrange_18 rfl (by omega) (by omega) (fun c18 => ?_) (fun c18 => ?_)
          · exact absurd c18 (by omega)
          · refine aw_iload dX10_arrange_21 rfl ?_
            refine aw_iload_n dX10_arrange_23 rfl ?_
            refine aw_ic_lt (tgt := 37) dX10_arrange_24 rfl (by omega) (by omega) (fun c24 => ?_) (fun c24 => ?_)
            · refine aw_iload dX10_arrange_37 rfl ?_
              refine aw_iload_n dX10_arrange_39 rfl ?_
              refine aw_ic_ne (tgt := 68) dX10_arrange_40 rfl (by omega) (by omega) (fun c40 => ?_) (fun c40 => ?_)
              · refine aw_iinc (k9 := 0) (ls1 := [(5, _), (4, _), (0, _), (1, _), (2, _), (3, _)]) dX10_arrange_68 rfl (by decide) rfl ?_
                refine aw_goto (tgt := 6) dX10_arrange_71 rfl ?_
                refine aw_sub [0, 1, 2, 3, 4, 5] rfl ?_
                exact I
              · exact absurd c40 (by omega)
            · exact absurd c24 (by omega)
