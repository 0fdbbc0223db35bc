/-! ===== Tree: append, hang ===== -/
theorem rowT.tr0 {H : AH} {t : Nat} {T : Tr} (hR : rowT H t T) (hS : shTr H t) (h0 : gi H t 0 = tn T) : isTr H t T := ⟨hS, h0, hR⟩
theorem c_append {γ : GG} {t p : Nat} {T : Tr} {x y : Int} {h : AH} (hT : isTr h t T) (ho : okTr T) (hp : p < tn T) (hn40 : tn T < 40) (hx : 0 ≤ x ∧ x ≤ 7 ∧ 0 ≤ y ∧ y ≤ 9) : Call γ mX10_append 3 0 0 [vr (some t), vi (p : Int), vi x, vi y] h (rE (vi ((endT T p : Nat) : Int)) (fun h' => isTr h' t (addT T p x y) ∧ eqT (S9U t) h h')) := by
  obtain ⟨hS, h0, hc⟩ := hT
  have hok := add_ok ho hp hn40 hx
  obtain ⟨o1, o2, o3, o4, o5, o6⟩ := ho.o
  obtain ⟨e1, e2, e3, e4⟩ := endT_spec hp
  have c4 : gi h (t + 4) p = ((endT T p - 1 : Nat) : Int) := (hc p hp).2.2.2.1.trans (by omega)
  generalize hC : endT T p = C at e1 e2 e3 e4 c4 ⊢
  have hA : addT T p x y = ipT T C 1 (fun _ => x) (fun _ => y) (fun _ => p) := by unfold addT; rw [hC]
  rw [hA] at hok ⊢
  have od : ∀ k, k < tn T + 1 → (k < C ∧ inOO C (tn T) 1 k = k) ∨ (k = C ∧ inOO C (tn T) 1 k = tn T) ∨ (C < k ∧ inOO C (tn T) 1 k = k - 1) := fun k hk => by
    have s1 := inOO_s C (tn T) 1 k
    have s2 := dlO_s (tn T) 1 k
    have s3 := dlO_s (tn T) 1 (k - 1)
    omega
  have hE3 : eqT (S9U t) h (si (si (si (si h (t + 1) (tn T) x) (t + 2) (tn T) y) (t + 3) (tn T) p) t 0 ((tn T + 1 : Nat) : Int)) := (((eqT.wi (by unfold S9U; omega)).tr (eqT.wi (by unfold S9U; omega))).tr (eqT.wi (by unfold S9U; omega))).tr (eqT.wi (by unfold S9U; omega))
  have sb := dlC_s (tn T) 1 (C - 1)
  have hR : ∀ u, u < tn T → gi (si (si (si (si h (t + 1) (tn T) x) (t + 2) (tn T) y) (t + 3) (tn T) p) t 0 ((tn T + 1 : Nat) : Int)) (t + 1) u = tnm T u ∧ gi (si (si (si (si h (t + 1) (tn T) x) (t + 2) (tn T) y) (t + 3) (tn T) p) t 0 ((tn T + 1 : Nat) : Int)) (t + 2) u = tvl T u ∧ gi (si (si (si (si h (t + 1) (tn T) x) (t + 2) (tn T) y) (t + 3) (tn T) p) t 0 ((tn T + 1 : Nat) : Int)) (t + 3) u = tpa T u := fun u hu => by
    obtain ⟨a1, a2, a3, -⟩ := hc u hu
    refine ⟨?_, ?_, ?_⟩
    · rw [gi_ne (Or.inl (by omega)), gi_ne (Or.inl (by omega)), gi_ne (Or.inl (by omega)), gi_ne (Or.inr (by omega)), a1]
    · rw [gi_ne (Or.inl (by omega)), gi_ne (Or.inl (by omega)), gi_ne (Or.inr (by omega)), gi_ne (Or.inl (by omega)), a2]
    · rw [gi_ne (Or.inl (by omega)), gi_ne (Or.inr (by omega)), gi_ne (Or.inl (by omega)), gi_ne (Or.inl (by omega)), a3]
  have hX : gi (si (si (si (si h (t + 1) (tn T) x) (t + 2) (tn T) y) (t + 3) (tn T) p) t 0 ((tn T + 1 : Nat) : Int)) (t + 1) (tn T) = x ∧ gi (si (si (si (si h (t + 1) (tn T) x) (t + 2) (tn T) y) (t + 3) (tn T) p) t 0 ((tn T + 1 : Nat) : Int)) (t + 2) (tn T) = y ∧ gi (si (si (si (si h (t + 1) (tn T) x) (t + 2) (tn T) y) (t + 3) (tn T) p) t 0 ((tn T + 1 : Nat) : Int)) (t + 3) (tn T) = p := by
    refine ⟨?_, ?_, ?_⟩
    · rw [gi_ne (Or.inl (by omega)), gi_ne (Or.inl (by omega)), gi_ne (Or.inl (by omega)), gi_at rfl rfl]
    · rw [gi_ne (Or.inl (by omega)), gi_ne (Or.inl (by omega)), gi_at rfl rfl]
    · rw [gi_ne (Or.inl (by omega)), gi_at rfl rfl]
  have h30 : gi (si (si (si (si h (t + 1) (tn T) x) (t + 2) (tn T) y) (t + 3) (tn T) p) t 0 ((tn T + 1 : Nat) : Int)) t 0 = ((tn T + 1 : Nat) : Int) := gi_at rfl rfl
  have h36 : gl (si (si (si (si h (t + 1) (tn T) x) (t + 2) (tn T) y) (t + 3) (tn T) p) t 0 ((tn T + 1 : Nat) : Int)) (t + 6) 0 = 0 := (hc 0 (by omega)).2.2.2.2.2.trans (anS_0 T)
  have c43 : gi (si (si (si (si h (t + 1) (tn T) x) (t + 2) (tn T) y) (t + 3) (tn T) p) t 0 ((tn T + 1 : Nat) : Int)) (t + 4) p = ((C - 1 : Nat) : Int) := by
    rw [gi_ne (Or.inl (by omega)), gi_ne (Or.inl (by omega)), gi_ne (Or.inl (by omega)), gi_ne (Or.inl (by omega)), c4]
  have hS3 := hE3.shTr hS
  have F : ∀ H, H = si (si (si (si h (t + 1) (tn T) x) (t + 2) (tn T) y) (t + 3) (tn T) p) t 0 ((tn T + 1 : Nat) : Int) → AW γ mX10_append 3 0 0 49 [(4, vi (tn T : Int)), (0, vr (some t)), (1, vi (p : Int)), (2, vi x), (3, vi y)] [] H (rE (vi (C : Int)) (fun h' => isTr h' t (ipT T C 1 (fun _ => x) (fun _ => y) (fun _ => p)) ∧ eqT (S9U t) h h')) := fun H hH => by
    rw [← hH] at hE3 hR hX h30 h36 c43 hS3
    have CA := c_arrange (γ := γ) (T := ipT T C 1 (fun _ => x) (fun _ => y) (fun _ => p)) hS3 h30 (arO_ins (L := tn T + 1) (f := tn T) (m := 1) (b := C - 1) (at9 := C) (by omega) (by omega) (by omega) (by omega) (by omega)) hok rfl (fun k hk => by
      rcases od k hk with ⟨d1, d2⟩ | ⟨d1, d2⟩ | ⟨d1, d2⟩
      · obtain ⟨i1, i2, -⟩ := ip_at1 (T := T) (m := 1) (x := fun _ => x) (y := fun _ => y) (z := fun _ => (p : Int)) d1
        rw [d2, i1, i2]
        exact ⟨(hR k (by omega)).1, (hR k (by omega)).2.1⟩
      · obtain ⟨i1, i2, -⟩ := ip_at2 (T := T) (c := C) (m := 1) (k := k) (x := fun _ => x) (y := fun _ => y) (z := fun _ => (p : Int)) (by omega) (by omega)
        rw [d2, i1, i2]
        exact ⟨hX.1, hX.2.1⟩
      · obtain ⟨i1, i2, -⟩ := ip_at3 (T := T) (c := C) (m := 1) (k := k) (x := fun _ => x) (y := fun _ => y) (z := fun _ => (p : Int)) (by omega)
        rw [d2, i1, i2]
        exact ⟨(hR (k - 1) (by omega)).1, (hR (k - 1) (by omega)).2.1⟩) (by
      rcases od 0 (by omega) with ⟨d1, d2⟩ | ⟨d1, d2⟩ | ⟨d1, d2⟩
      · rw [d2]
        exact (hR 0 (by omega)).2.2.trans o4
      · omega
      · omega) (fun k k1 k2 => by
      rcases od k k2 with ⟨d1, d2⟩ | ⟨d1, d2⟩ | ⟨d1, d2⟩
      · obtain ⟨-, -, i3⟩ := ip_at1 (T := T) (m := 1) (x := fun _ => x) (y := fun _ => y) (z := fun _ => (p : Int)) d1
        have g := o5 k k1 (by omega)
        obtain ⟨u, hu⟩ := Int.eq_ofNat_of_zero_le g.1
        have hu : tpa T k = (u : Int) := hu
        have s := od u (by omega)
        rw [d2, i3]
        exact ⟨u, u, (hR k (by omega)).2.2.trans hu, by omega, by omega, by omega, hu⟩
      · obtain ⟨-, -, i3⟩ := ip_at2 (T := T) (c := C) (m := 1) (k := k) (x := fun _ => x) (y := fun _ => y) (z := fun _ => (p : Int)) (by omega) (by omega)
        have s := od p (by omega)
        rw [d2, i3]
        exact ⟨p, p, hX.2.2, by omega, by omega, by omega, rfl⟩
      · obtain ⟨-, -, i3⟩ := ip_at3 (T := T) (c := C) (m := 1) (k := k) (x := fun _ => x) (y := fun _ => y) (z := fun _ => (p : Int)) (by omega)
        have g := o5 (k - 1) (by omega) (by omega)
        obtain ⟨u, hu⟩ := Int.eq_ofNat_of_zero_le g.1
        have hu : tpa T (k - 1) = (u : Int) := hu
        rw [d2, i3]
        by_cases z : C ≤ u
        · rw [if_pos (by omega)]
          have s := od (u + 1) (by omega)
          exact ⟨u, u + 1, (hR (k - 1) (by omega)).2.2.trans hu, by omega, by omega, by omega, by omega⟩
        · rw [if_neg (by omega)]
          have s := od u (by omega)
          exact ⟨u, u, (hR (k - 1) (by omega)).2.2.trans hu, by omega, by omega, by omega, hu⟩) h36
    obtain ⟨hk, ⟨r1, k1⟩, ⟨r2, k2⟩, ⟨r3, k3⟩, ⟨r4, k4⟩, ⟨r5, k5⟩, ⟨r6, k6⟩, ⟨r7, k7⟩, ⟨r8, k8⟩, ⟨r9, k9⟩⟩ := hS3
    refine aw_aload_n dX10_append_49 rfl ?_
    refine aw_iload dX10_append_50 rfl ?_
    refine aw_iload dX10_append_52 rfl ?_
    refine aw_iconst dX10_append_54 ?_
    refine aw_iadd dX10_append_55 ?_
    rw [show (tn T : Int) + 1 = ((tn T + 1 : Nat) : Int) by omega]
    refine aw_aload_n dX10_append_56 rfl ?_
    refine aw_getr' (j := 4) dX10_append_57 fX10_25 rfl (by assumption) rfl (by assumption) ?_
    refine aw_iload_n dX10_append_60 rfl ?_
    refine aw_iald' dX10_append_61 (by assumption) (by omega) (by first | decide | omega) c43 ?_
    refine aw_invV_e dX10_append_62 vX10_arrange kX10_50 rfl (CA) ⟨_, (by assumption), _, _, rfl⟩ rfl rfl (by decide) (by decide) (by decide) (Nat.le_of_ble_eq_true rfl) (fun H1 hP9 => ?_)
    obtain ⟨E1, R1, N1⟩ := hP9
    have hS4 := E1.shTr ⟨hk, ⟨r1, k1⟩, ⟨r2, k2⟩, ⟨r3, k3⟩, ⟨r4, k4⟩, ⟨r5, k5⟩, ⟨r6, k6⟩, ⟨r7, k7⟩, ⟨r8, k8⟩, ⟨r9, k9⟩⟩
    clear hk r1 k1 r2 k2 r3 k3 r4 k4 r5 k5 r6 k6 r7 k7 r8 k8 r9 k9
    have hS5 := hS4
    obtain ⟨hk, ⟨r1, k1⟩, ⟨r2, k2⟩, ⟨r3, k3⟩, ⟨r4, k4⟩, ⟨r5, k5⟩, ⟨r6, k6⟩, ⟨r7, k7⟩, ⟨r8, k8⟩, ⟨r9, k9⟩⟩ := hS4
    have n1 := N1 C (by omega)
    rw [show inOO C (tn T) 1 C = tn T by have := od C (by omega); omega] at n1
    refine aw_pop dX10_append_65 rfl ?_
    refine aw_aload_n dX10_append_66 rfl ?_
    refine aw_getr' (j := 8) dX10_append_67 fX10_38 rfl (by assumption) rfl (by assumption) ?_
    refine aw_iload dX10_append_70 rfl ?_
    refine aw_iald' dX10_append_72 (by assumption) (by omega) (by first | decide | omega) n1 ?_
    exact aw_ireturn dX10_append_73 rfl (Or.inl rfl) ⟨rfl, R1.tr0 hS5 (((E1.2 t).2.2 (by unfold S9T; omega) 0).1.trans h30), hE3.tr (E1.mono (fun b hb => by unfold S9T at hb; unfold S9U; omega))⟩
  have F := F _ rfl
  obtain ⟨hk, ⟨r1, k1⟩, ⟨r2, k2⟩, ⟨r3, k3⟩, ⟨r4, k4⟩, ⟨r5, k5⟩, ⟨r6, k6⟩, ⟨r7, k7⟩, ⟨r8, k8⟩, ⟨r9, k9⟩⟩ := hS
  refine Call.of (ls := [(0, vr (some t)), (1, vi (p : Int)), (2, vi x), (3, vi y)]) vX10_append.1 (Nat.le_of_ble_eq_true rfl) rfl ?_
  refine aw_aload_n dX10_append_0 rfl ?_
  refine aw_geti' (j := 0) dX10_append_1 fX10_9 rfl (by assumption) rfl h0 ?_
  refine aw_istore (ls1 := [(4, _), (0, _), (1, _), (2, _), (3, _)]) dX10_append_4 (by decide) rfl ?_
  refine aw_iload dX10_append_6 rfl ?_
  refine aw_bipush dX10_append_8 rfl ?_
  refine aw_ic_lt (tgt := 15) dX10_append_10 rfl (by omega) (by omega) (fun c10 => ?_) (fun c10 => ?_)
  · refine aw_aload_n dX10_append_15 rfl ?_
    refine aw_getr' (j := 1) dX10_append_16 fX10_15 rfl (by assumption) rfl (by assumption) ?_
    refine aw_iload dX10_append_19 rfl ?_
    refine aw_iload_n dX10_append_21 rfl ?_
    refine aw_iast dX10_append_22 (by assumption) (by omega) (by first | decide | omega) ?_
    refine aw_aload_n dX10_append_23 rfl ?_
    refine aw_getr' (j := 2) dX10_append_24 fX10_19 rfl (by assumption) rfl (by assumption) ?_
    refine aw_iload dX10_append_27 rfl ?_
    refine aw_iload_n dX10_append_29 rfl ?_
    refine aw_iast dX10_append_30 (by assumption) (by omega) (by first | decide | omega) ?_
    refine aw_aload_n dX10_append_31 rfl ?_
    refine aw_getr' (j := 3) dX10_append_32 fX10_22 rfl (by assumption) rfl (by assumption) ?_
    refine aw_iload dX10_append_35 rfl ?_
    refine aw_iload_n dX10_append_37 rfl ?_
    refine aw_iast dX10_append_38 (by assumption) (by omega) (by first | decide | omega) ?_
    refine aw_aload_n dX10_append_39 rfl ?_
    refine aw_dup dX10_append_40 rfl ?_
    refine aw_geti' (j := 0) dX10_append_41 fX10_9 rfl (by assumption) rfl ((gi_ne (Or.inl (by omega))).trans ((gi_ne (Or.inl (by omega))).trans ((gi_ne (Or.inl (by omega))).trans h0))) ?_
    refine aw_iconst dX10_append_44 ?_
    refine aw_iadd dX10_append_45 ?_
    rw [show (tn T : Int) + 1 = ((tn T + 1 : Nat) : Int) by omega]
    refine aw_puti' (j := 0) rfl dX10_append_46 fX10_9 (by assumption) rfl ?_
    refine aw_sub [0, 1, 2, 3, 4] rfl ?_
    exact F
  · exact absurd c10 (by omega)
