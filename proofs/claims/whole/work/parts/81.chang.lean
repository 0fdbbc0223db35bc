/-! ===== Tree: hang ===== -/
theorem nest_end {T : Tr} {v p : Nat} (hv : v < tn T) (hp : p < v) (h : v < endT T p) : endT T v ≤ endT T p := by
  obtain ⟨e1, e2, e3, e4⟩ := endT_spec hv
  obtain ⟨f1, f2, f3, f4⟩ := endT_spec (T := T) (v := p) (by omega)
  by_cases z : endT T v ≤ endT T p
  · exact z
  · have y1 := e3 (endT T p) (by omega) (by omega)
    have y2 := f4 (by omega)
    omega
theorem mvAt_b {T : Tr} (ho : okTr T) {v p m : Nat} (hv1 : 1 ≤ v) (hv : v < tn T) (hp : p < tn T) (hout : p < v ∨ endT T v ≤ p) (hm : v + m = endT T v) : mvTo T v p = dlC v m p ∧ mvTo T v p < mvAt T v p ∧ mvAt T v p + m ≤ tn T ∧ (∀ b, b = endT T p - 1 → b < tn T ∧ (((b < v ∨ v + m ≤ b) ∧ mvAt T v p = dlC v m b + 1) ∨ (v ≤ b ∧ b < v + m ∧ mvAt T v p = v))) := by
  obtain ⟨e1, e2, e3, e4⟩ := endT_spec hv
  obtain ⟨f1, f2, f3, f4⟩ := endT_spec hp
  have q := mvAt_eq ho hv1 hv hp hout
  have hm2 : endT T v - v = m := by omega
  rw [hm2] at q
  have s := dlC_s v m p
  have to : mvTo T v p = dlC v m p := by
    unfold mvTo
    rw [hm2]
    split <;> omega
  have hn : tn (dlT T v m) = tn T - m := rfl
  obtain ⟨g1, g2, -, -⟩ := endT_spec (T := dlT T v m) (v := mvTo T v p) (by omega)
  have at9 : mvAt T v p = endT (dlT T v m) (mvTo T v p) := by unfold mvAt; rw [hm2]
  refine ⟨to, by omega, by omega, fun b hb => ?_⟩
  have ne := fun (a : p < v) (c : v < endT T p) => nest_end hv a c
  have s2 := dlC_s v m b
  by_cases c : endT T p ≤ v
  · rw [if_pos c] at q
    omega
  · rw [if_neg c] at q
    by_cases y : endT T p ≤ v + m
    · have : p < v := by omega
      have := ne this (by omega)
      omega
    · omega
theorem mv_par {T : Tr} (ho : okTr T) {v p m c : Nat} (hv1 : 1 ≤ v) (hv : v < tn T) (hp : p < tn T) (hout : p < v ∨ endT T v ≤ p) (hm : v + m = endT T v) (hc : mvAt T v p = c) {k : Nat} (hk1 : 1 ≤ k) (hk : k < tn T) : ∃ u q : Nat, (if inOO c v m k = v then (p : Int) else tpa T (inOO c v m k)) = u ∧ u < 40 ∧ q < tn T ∧ inOO c v m q = u ∧ tpa (movT T v p) k = q := by
  obtain ⟨o1, o2, o3, o4, o5, o6⟩ := ho.o
  obtain ⟨e1, e2, e3, e4⟩ := endT_spec hv
  obtain ⟨b1, b2, b3, -⟩ := mvAt_b ho hv1 hv hp hout hm
  have hm2 : endT T v - v = m := by omega
  rw [hc] at b2 b3
  have hM : movT T v p = ipT (dlT T v m) c m (fun i => tnm T (v + i)) (fun i => tvl T (v + i)) (fun i => if i = 0 then (mvTo T v p : Int) else tpa T (v + i) - v + c) := by unfold movT; rw [hm2, hc]
  rw [hM]
  have sk := inOO_s c v m k
  rcases sk with ⟨k1, k2⟩ | ⟨k1, k3, k2⟩ | ⟨k1, k2⟩
  · obtain ⟨-, -, i3⟩ := ip_at1 (T := dlT T v m) (m := m) (x := fun i => tnm T (v + i)) (y := fun i => tvl T (v + i)) (z := fun i => if i = 0 then (mvTo T v p : Int) else tpa T (v + i) - v + c) k1
    obtain ⟨u, q, u1, u2, u3, u4, u5, u6⟩ := dl_par ho hv1 hv hm hk1 (by omega)
    have s := dlO_s v m k
    have s2 := inOO_s c v m q
    rw [k2, i3, if_neg (by omega)]
    exact ⟨u, q, u1, u2, by omega, by omega, u5⟩
  · obtain ⟨-, -, i3⟩ := ip_at2 (T := dlT T v m) (c := c) (m := m) (k := k) (x := fun i => tnm T (v + i)) (y := fun i => tvl T (v + i)) (z := fun i => if i = 0 then (mvTo T v p : Int) else tpa T (v + i) - v + c) k1 k3
    rw [k2, i3]
    by_cases z : k - c = 0
    · rw [if_pos (by omega), if_pos z]
      have s := dlC_s v m p
      have s2 := inOO_s c v m (mvTo T v p)
      have s3 := dlO_s v m (mvTo T v p)
      exact ⟨p, mvTo T v p, rfl, by omega, by omega, by omega, rfl⟩
    · rw [if_neg (by omega), if_neg z]
      have g := o5 (v + (k - c)) (by omega) (by omega)
      have g2 := e3 (v + (k - c)) (by omega) (by omega)
      obtain ⟨u, hu⟩ := Int.eq_ofNat_of_zero_le g.1
      have hu : tpa T (v + (k - c)) = (u : Int) := hu
      have s2 := inOO_s c v m (u - v + c)
      exact ⟨u, u - v + c, hu, by omega, by omega, by omega, by omega⟩
  · obtain ⟨-, -, i3⟩ := ip_at3 (T := dlT T v m) (c := c) (m := m) (k := k) (x := fun i => tnm T (v + i)) (y := fun i => tvl T (v + i)) (z := fun i => if i = 0 then (mvTo T v p : Int) else tpa T (v + i) - v + c) k1
    obtain ⟨u, q, u1, u2, u3, u4, u5, u6⟩ := dl_par (k := k - m) ho hv1 hv hm (by omega) (by omega)
    have s := dlO_s v m (k - m)
    rw [k2, i3, if_neg (by omega), u5]
    by_cases z : c ≤ q
    · rw [if_pos (by omega)]
      have s2 := inOO_s c v m (q + m)
      rw [show q + m - m = q by omega] at s2
      exact ⟨u, q + m, u1, u2, by omega, by omega, by omega⟩
    · rw [if_neg (by omega)]
      have s2 := inOO_s c v m q
      exact ⟨u, q, u1, u2, by omega, by omega, rfl⟩
theorem c_hang {γ : GG} {t v p : Nat} {T : Tr} {h : AH} (hT : isTr h t T) (ho : okTr T) (hv1 : 1 ≤ v) (hv : v < tn T) (hp : p < tn T) (hout : p < v ∨ endT T v ≤ p) : Call γ mX10_hang 3 0 0 [vr (some t), vi (v : Int), vi (p : Int)] h (rE (vi (mvAt T v p : Int)) (fun h' => isTr h' t (movT T v p) ∧ eqT (S9U t) h h')) := by
  obtain ⟨hS, h0, hc⟩ := hT
  have hok := mov_ok ho hv1 hv hp hout
  obtain ⟨o1, o2, o3, o4, o5, o6⟩ := ho.o
  obtain ⟨e1, e2, e3, e4⟩ := endT_spec hv
  obtain ⟨f1, f2, f3, f4⟩ := endT_spec hp
  obtain ⟨m, hm⟩ : ∃ m, v + m = endT T v := ⟨endT T v - v, by omega⟩
  have hm2 : endT T v - v = m := by omega
  obtain ⟨b1, b2, b3, b4⟩ := mvAt_b ho hv1 hv hp hout hm
  have MP := fun (k : Nat) (k1 : 1 ≤ k) (k2 : k < tn T) => mv_par ho hv1 hv hp hout hm rfl k1 k2
  generalize hC : mvAt T v p = c at b2 b3 b4 MP ⊢
  have hM : movT T v p = ipT (dlT T v m) c m (fun i => tnm T (v + i)) (fun i => tvl T (v + i)) (fun i => if i = 0 then (mvTo T v p : Int) else tpa T (v + i) - v + c) := by unfold movT; rw [hm2, hC]
  have hnM : tn (movT T v p) = tn T := by
    rw [hM]
    show tn T - m + m = tn T
    omega
  have c4v : gi (si h (t + 3) v p) (t + 4) v = ((v + m - 1 : Nat) : Int) := (gi_ne (Or.inl (by omega))).trans ((hc v hv).2.2.2.1.trans (by omega))
  have c4p : gi (si h (t + 3) v p) (t + 4) p = ((endT T p - 1 : Nat) : Int) := (gi_ne (Or.inl (by omega))).trans ((hc p hp).2.2.2.1.trans (by omega))
  have hE1 : eqT (S9U t) h (si h (t + 3) v p) := eqT.wi (by unfold S9U; omega)
  have hS1 := hE1.shTr hS
  have F : ∀ H b, H = si h (t + 3) v p → b = endT T p - 1 → Call γ mX10_arrange 2 0 0 [vr (some t), vi (v : Int), vi ((v + m : Nat) : Int), vi (b : Int)] H (rE (vi (tn T : Int)) (fun h' => isTr h' t (movT T v p) ∧ eqT (S9U t) h h' ∧ gi h' (t + 8) v = c)) := fun H b hH hb => by
    obtain ⟨d1, d2⟩ := b4 b hb
    have hAr : ∃ ct, arO (tn T) v m (tn T) (b : Int) ct (inOO c v m) := by
      rcases d2 with ⟨d2, d3⟩ | ⟨d2, d3, d4⟩
      · exact ⟨_, arO_ins (L := tn T) (f := v) (m := m) (b := b) (at9 := c) (by omega) o2 d1 d2 d3⟩
      · rw [d4]
        exact ⟨_, arO_stay (by omega) o2 d2 d3⟩
    obtain ⟨ct, hAr⟩ := hAr
    have hR : ∀ u, u < tn T → gi H (t + 1) u = tnm T u ∧ gi H (t + 2) u = tvl T u ∧ gi H (t + 3) u = (if u = v then (p : Int) else tpa T u) := fun u hu => by
      obtain ⟨a1, a2, a3, -⟩ := hc u hu
      rw [hH]
      refine ⟨(gi_ne (Or.inl (by omega))).trans a1, (gi_ne (Or.inl (by omega))).trans a2, ?_⟩
      by_cases z : u = v
      · rw [if_pos z]
        exact gi_at rfl (by omega)
      · rw [if_neg z]
        exact (gi_ne (Or.inr (by omega))).trans a3
    rw [← hH] at hE1 hS1
    have h30 : gi H t 0 = tn T := by rw [hH]; exact (gi_ne (Or.inl (by omega))).trans h0
    have h36 : gl H (t + 6) 0 = 0 := by rw [hH]; exact (hc 0 (by omega)).2.2.2.2.2.trans (anS_0 T)
    have rng : ∀ k, k < tn T → inOO c v m k < tn T := fun k hk => by
      have s1 := inOO_s c v m k
      have s2 := dlO_s v m k
      have s3 := dlO_s v m (k - m)
      omega
    have CA := c_arrange (γ := γ) (T := movT T v p) hS1 h30 hAr hok hnM (fun k hk => by
      have hr := hR (inOO c v m k) (rng k hk)
      rw [hr.1, hr.2.1, hM]
      rcases inOO_s c v m k with ⟨k1, k2⟩ | ⟨k1, k3, k2⟩ | ⟨k1, k2⟩
      · obtain ⟨i1, i2, -⟩ := ip_at1 (T := dlT T v m) (m := m) (x := fun i => tnm T (v + i)) (y := fun i => tvl T (v + i)) (z := fun i => if i = 0 then (mvTo T v p : Int) else tpa T (v + i) - v + c) k1
        rw [i1, i2, k2, dl_o.1, dl_o.2]
        exact ⟨rfl, rfl⟩
      · obtain ⟨i1, i2, -⟩ := ip_at2 (T := dlT T v m) (c := c) (m := m) (k := k) (x := fun i => tnm T (v + i)) (y := fun i => tvl T (v + i)) (z := fun i => if i = 0 then (mvTo T v p : Int) else tpa T (v + i) - v + c) k1 k3
        rw [i1, i2, k2]
        exact ⟨rfl, rfl⟩
      · obtain ⟨i1, i2, -⟩ := ip_at3 (T := dlT T v m) (c := c) (m := m) (k := k) (x := fun i => tnm T (v + i)) (y := fun i => tvl T (v + i)) (z := fun i => if i = 0 then (mvTo T v p : Int) else tpa T (v + i) - v + c) k1
        rw [i1, i2, k2, dl_o.1, dl_o.2]
        exact ⟨rfl, rfl⟩) (by
      have s1 := inOO_s c v m 0
      have s2 := dlO_s v m 0
      rw [show inOO c v m 0 = 0 by omega]
      have hr := (hR 0 (by omega)).2.2
      rw [if_neg (by omega)] at hr
      exact hr.trans o4) (fun k k1 k2 => by
      obtain ⟨u, q, u1, u2⟩ := MP k k1 k2
      exact ⟨u, q, ((hR _ (rng k k2)).2.2).trans u1, u2⟩) h36
    refine Call.mono (fun r h' hq => ?_) CA
    obtain ⟨q1, q2, q3, q4⟩ := hq
    have n1 := q4 c (by omega)
    rw [show inOO c v m c = v by have := inOO_s c v m c; omega] at n1
    exact ⟨q1, q3.tr0 (q2.shTr hS1) (((q2.2 t).2.2 (by unfold S9T; omega) 0).1.trans (h30.trans (by rw [hnM]))), hE1.tr (q2.mono (fun b hb => by unfold S9T at hb; unfold S9U; omega)), n1⟩
  obtain ⟨hk, ⟨r1, k1⟩, ⟨r2, k2⟩, ⟨r3, k3⟩, ⟨r4, k4⟩, ⟨r5, k5⟩, ⟨r6, k6⟩, ⟨r7, k7⟩, ⟨r8, k8⟩, ⟨r9, k9⟩⟩ := hS
  have CA := F _ (endT T p - 1) rfl rfl
  refine Call.of (ls := [(0, vr (some t)), (1, vi (v : Int)), (2, vi (p : Int))]) vX10_hang.1 (Nat.le_of_ble_eq_true rfl) rfl ?_
  refine aw_aload_n dX10_hang_0 rfl ?_
  refine aw_getr' (j := 3) dX10_hang_1 fX10_22 rfl (by assumption) rfl (by assumption) ?_
  refine aw_iload_n dX10_hang_4 rfl ?_
  refine aw_iload_n dX10_hang_5 rfl ?_
  refine aw_iast dX10_hang_6 (by assumption) (by omega) (by first | decide | omega) ?_
  refine aw_aload_n dX10_hang_7 rfl ?_
  refine aw_iload_n dX10_hang_8 rfl ?_
  refine aw_aload_n dX10_hang_9 rfl ?_
  refine aw_getr' (j := 4) dX10_hang_10 fX10_25 rfl (by assumption) rfl (by assumption) ?_
  refine aw_iload_n dX10_hang_13 rfl ?_
  refine aw_iald' dX10_hang_14 (by assumption) (by omega) (by first | decide | omega) c4v ?_
  refine aw_iconst dX10_hang_15 ?_
  refine aw_iadd dX10_hang_16 ?_
  rw [show ((v + m - 1 : Nat) : Int) + 1 = ((v + m : Nat) : Int) by omega]
  refine aw_aload_n dX10_hang_17 rfl ?_
  refine aw_getr' (j := 4) dX10_hang_18 fX10_25 rfl (by assumption) rfl (by assumption) ?_
  refine aw_iload_n dX10_hang_21 rfl ?_
  refine aw_iald' dX10_hang_22 (by assumption) (by omega) (by first | decide | omega) c4p ?_
  refine aw_invV_e dX10_hang_23 vX10_arrange kX10_50 rfl (CA) ⟨_, (by assumption), _, _, rfl⟩ rfl rfl (by decide) (by decide) (by decide) (Nat.le_of_ble_eq_true rfl) (fun H1 hP9 => ?_)
  obtain ⟨E1, E2, N1⟩ := hP9
  have hS4 := E1.1
  clear hk r1 k1 r2 k2 r3 k3 r4 k4 r5 k5 r6 k6 r7 k7 r8 k8 r9 k9
  obtain ⟨hk, ⟨r1, k1⟩, ⟨r2, k2⟩, ⟨r3, k3⟩, ⟨r4, k4⟩, ⟨r5, k5⟩, ⟨r6, k6⟩, ⟨r7, k7⟩, ⟨r8, k8⟩, ⟨r9, k9⟩⟩ := hS4
  refine aw_pop dX10_hang_26 rfl ?_
  refine aw_aload_n dX10_hang_27 rfl ?_
  refine aw_getr' (j := 8) dX10_hang_28 fX10_38 rfl (by assumption) rfl (by assumption) ?_
  refine aw_iload_n dX10_hang_31 rfl ?_
  refine aw_iald' dX10_hang_32 (by assumption) (by omega) (by first | decide | omega) N1 ?_
  exact aw_ireturn dX10_hang_33 rfl (Or.inl rfl) ⟨rfl, E1, E2⟩
