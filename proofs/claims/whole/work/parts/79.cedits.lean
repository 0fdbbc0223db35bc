/-! ===== Tree: append, cut, hang ===== -/
def dlO (f m k : Nat) : Nat := if k < f then k else k + m
def dlC (f m u : Nat) : Nat := if u < f then u else if u < f + m then f else u - m
theorem dlO_s (f m k : Nat) : (k < f ∧ dlO f m k = k) ∨ (f ≤ k ∧ dlO f m k = k + m) := by
  unfold dlO
  split <;> omega
theorem dlC_s (f m u : Nat) : (u < f ∧ dlC f m u = u) ∨ (f ≤ u ∧ u < f + m ∧ dlC f m u = f) ∨ (f + m ≤ u ∧ f ≤ u ∧ dlC f m u = u - m) := by
  unfold dlC
  split
  · omega
  · split <;> omega
def inOO (at9 f m k : Nat) : Nat := if k < at9 then dlO f m k else if k < at9 + m then f + (k - at9) else dlO f m (k - m)
theorem inOO_s (at9 f m k : Nat) : (k < at9 ∧ inOO at9 f m k = dlO f m k) ∨ (at9 ≤ k ∧ k < at9 + m ∧ inOO at9 f m k = f + (k - at9)) ∨ (at9 + m ≤ k ∧ inOO at9 f m k = dlO f m (k - m)) := by
  unfold inOO
  split
  · omega
  · split <;> omega
def inCC (b : Nat) (f m u : Nat) : Nat := dlC f m u + if b < u then m else 0
theorem inCC_s (b f m u : Nat) : (b < u ∧ inCC b f m u = dlC f m u + m) ∨ (u ≤ b ∧ inCC b f m u = dlC f m u) := by
  unfold inCC
  split <;> omega
theorem arO_cut {L f m : Nat} (h1 : f + m ≤ L) (h2 : L ≤ 40) : arO L f m (L - m) (-1) (dlC f m) (dlO f m) := by
  refine ⟨h1, h2, by omega, by omega, by omega, ?_, ?_, fun v hv ho => ?_, fun v hv ho => ⟨fun _ => ?_, fun z => absurd z (by omega)⟩, fun v hv ho hb => ?_, fun v hv ho hb => absurd hb (by omega), fun i j hi hj => ?_, fun j hj => ?_⟩
  · have := dlC_s f m 0; omega
  · have := dlC_s f m L; omega
  · have a := dlC_s f m v
    have c := dlO_s f m (dlC f m v)
    omega
  · have a := dlC_s f m v
    have c := dlC_s f m (v + 1)
    omega
  · have a := dlC_s f m v
    have c := dlC_s f m (v + 1)
    omega
  · have a := dlO_s f m i
    have c := dlO_s f m j
    omega
  · have a := dlO_s f m j
    omega
theorem arO_ins {L f m b at9 : Nat} (h1 : f + m ≤ L) (h2 : L ≤ 40) (hb : b < L) (hb2 : b < f ∨ f + m ≤ b) (ha : at9 = dlC f m b + 1) : arO L f m L (b : Int) (inCC b f m) (inOO at9 f m) := by
  have sb := dlC_s f m b
  refine ⟨h1, h2, by omega, by omega, by omega, ?_, ?_, fun v hv ho => ?_, fun v hv ho => ⟨fun _ => ?_, fun z => absurd z (by omega)⟩, fun v hv ho hn => ?_, fun v hv ho hn => ?_, fun i j hi hj => ?_, fun j hj => ?_⟩
  · have := dlC_s f m 0
    have := inCC_s b f m 0
    omega
  · have := dlC_s f m L
    have := inCC_s b f m L
    omega
  · have a := dlC_s f m v
    have c := inCC_s b f m v
    have d := inOO_s at9 f m (inCC b f m v)
    have e := dlO_s f m (inCC b f m v)
    have g := dlO_s f m (inCC b f m v - m)
    omega
  · have a := dlC_s f m v
    have c := inCC_s b f m v
    have d := dlC_s f m (v + 1)
    have e := inCC_s b f m (v + 1)
    omega
  · have a := dlC_s f m v
    have c := inCC_s b f m v
    have d := dlC_s f m (v + 1)
    have e := inCC_s b f m (v + 1)
    omega
  · obtain rfl : v = b := by omega
    have c := inCC_s v f m v
    have d := dlC_s f m (v + 1)
    have e := inCC_s v f m (v + 1)
    refine ⟨by omega, by omega, fun j hj => ?_⟩
    have g := inOO_s at9 f m (inCC v f m v + 1 + j)
    omega
  · have a := inOO_s at9 f m i
    have c := inOO_s at9 f m j
    have d := dlO_s f m i
    have e := dlO_s f m j
    have g := dlO_s f m (i - m)
    have k := dlO_s f m (j - m)
    omega
  · have c := inOO_s at9 f m j
    have e := dlO_s f m j
    have k := dlO_s f m (j - m)
    omega
/-- the block stays where it is: b is one of it -/
def stC (b f m u : Nat) : Nat := if u < f then u else if u ≤ b then f else if u < f + m then f + m else u
theorem stC_s (b f m u : Nat) : (u < f ∧ stC b f m u = u) ∨ (f ≤ u ∧ u ≤ b ∧ stC b f m u = f) ∨ (f ≤ u ∧ b < u ∧ u < f + m ∧ stC b f m u = f + m) ∨ (f ≤ u ∧ b < u ∧ f + m ≤ u ∧ stC b f m u = u) := by
  unfold stC
  split
  · omega
  · split
    · omega
    · split <;> omega
theorem arO_stay {L f m b : Nat} (h1 : f + m ≤ L) (h2 : L ≤ 40) (hb : f ≤ b) (hb2 : b < f + m) : arO L f m L (b : Int) (stC b f m) (inOO f f m) := by
  refine ⟨h1, h2, by omega, by omega, by omega, ?_, ?_, fun v hv ho => ?_, fun v hv ho => ⟨fun hn => ?_, fun hn => ?_⟩, fun v hv ho hn => ?_, fun v hv ho hn => absurd hn (by omega), fun i j hi hj => ?_, fun j hj => ?_⟩
  · have := stC_s b f m 0
    omega
  · have := stC_s b f m L
    omega
  · have a := stC_s b f m v
    have c := inOO_s f f m (stC b f m v)
    have d := dlO_s f m (stC b f m v)
    have e := dlO_s f m (stC b f m v - m)
    omega
  · have a := stC_s b f m v
    have c := stC_s b f m (v + 1)
    omega
  · have a := stC_s b f m v
    have c := stC_s b f m (v + 1)
    refine ⟨by omega, by omega, fun j hj => ?_⟩
    have d := inOO_s f f m (stC b f m v + j)
    omega
  · have a := stC_s b f m v
    have c := stC_s b f m (v + 1)
    omega
  · have a := inOO_s f f m i
    have c := inOO_s f f m j
    have d := dlO_s f m i
    have e := dlO_s f m j
    have g := dlO_s f m (i - m)
    have k := dlO_s f m (j - m)
    omega
  · have c := inOO_s f f m j
    have e := dlO_s f m j
    have k := dlO_s f m (j - m)
    omega
theorem dl_o {T : Tr} {v m k : Nat} : tnm (dlT T v m) k = tnm T (dlO v m k) ∧ tvl (dlT T v m) k = tvl T (dlO v m k) := by
  have a := dlO_s v m k
  by_cases q : k < v
  · obtain ⟨d1, d2, -⟩ := dl_at1 (T := T) (m := m) q
    rw [d1, d2, show dlO v m k = k by omega]
    exact ⟨rfl, rfl⟩
  · obtain ⟨d1, d2, -⟩ := dl_at2 (T := T) (m := m) (show v ≤ k by omega)
    rw [d1, d2, show dlO v m k = k + m by omega]
    exact ⟨rfl, rfl⟩
/-- the parents when v's m nodes are gone -/
theorem dl_par {T : Tr} (ho : okTr T) {v m k : Nat} (hv1 : 1 ≤ v) (hv : v < tn T) (hm : v + m = endT T v) (hk1 : 1 ≤ k) (hk : k < tn T - m) : ∃ p q : Nat, tpa T (dlO v m k) = p ∧ p < 40 ∧ q < k ∧ dlO v m q = p ∧ tpa (dlT T v m) k = q ∧ (p < v ∨ v + m ≤ p) := by
  obtain ⟨o1, o2, o3, o4, o5, o6⟩ := ho.o
  have a := dlO_s v m k
  by_cases q : k < v
  · obtain ⟨-, -, d3⟩ := dl_at1 (T := T) (m := m) q
    have c := o5 k hk1 (by omega)
    obtain ⟨p, hp⟩ := Int.eq_ofNat_of_zero_le c.1
    have hp : tpa T k = (p : Int) := hp
    have e := dlO_s v m p
    rw [show dlO v m k = k by omega, d3]
    exact ⟨p, p, hp, by omega, by omega, by omega, hp, by omega⟩
  · obtain ⟨-, -, d3⟩ := dl_at2 (T := T) (m := m) (show v ≤ k by omega)
    have c := o5 (k + m) (by omega) (by omega)
    obtain ⟨p, hp⟩ := Int.eq_ofNat_of_zero_le c.1
    have hp : tpa T (k + m) = (p : Int) := hp
    have g := dl_pa ho hv hm (j := k + m) (by omega) (by omega)
    rw [show dlO v m k = k + m by omega, d3]
    by_cases y : (v : Int) ≤ tpa T (k + m)
    · rw [if_pos y]
      have e := dlO_s v m (p - m)
      exact ⟨p, p - m, hp, by omega, by omega, by omega, by omega, by omega⟩
    · rw [if_neg y]
      have e := dlO_s v m p
      exact ⟨p, p, hp, by omega, by omega, by omega, hp, by omega⟩
theorem endT_uniq {T : Tr} {v E : Nat} (hv : v < tn T) (h1 : v < E) (h2 : E ≤ tn T) (h3 : ∀ j, v < j → j < E → (v : Int) ≤ tpa T j) (h4 : E < tn T → tpa T E < v) : endT T v = E := by
  obtain ⟨e1, e2, e3, e4⟩ := endT_spec hv
  by_cases a : endT T v < E
  · have := h3 (endT T v) e1 a
    have := e4 (by omega)
    omega
  · by_cases b : E < endT T v
    · have := e3 E h1 b
      have := h4 (by omega)
      omega
    · omega
theorem mvAt_eq {T : Tr} (ho : okTr T) {v p : Nat} (hv1 : 1 ≤ v) (hv : v < tn T) (hp : p < tn T) (hout : p < v ∨ endT T v ≤ p) : mvAt T v p = if endT T p ≤ v then endT T p else endT T p - (endT T v - v) := by
  obtain ⟨o1, o2, o3, o4, o5, o6⟩ := ho.o
  obtain ⟨e1, e2, e3, e4⟩ := endT_spec hv
  obtain ⟨f1, f2, f3, f4⟩ := endT_spec hp
  obtain ⟨m, hm⟩ : ∃ m, v + m = endT T v := ⟨endT T v - v, by omega⟩
  have hm2 : endT T v - v = m := by omega
  have hn : tn (dlT T v m) = tn T - m := rfl
  unfold mvAt mvTo
  rw [hm2]
  by_cases a : p < v
  · rw [if_neg (show ¬ v < p by omega)]
    by_cases c : endT T p ≤ v
    · rw [if_pos c]
      refine endT_uniq (by omega) f1 (by omega) (fun j j1 j2 => ?_) (fun z => ?_)
      · rw [(dl_at1 (T := T) (m := m) (show j < v by omega)).2.2]
        exact f3 j j1 j2
      · by_cases y : endT T p < v
        · rw [(dl_at1 (T := T) (m := m) y).2.2]
          exact f4 (by omega)
        · have y1 : endT T p = v := by omega
          have y2 := e4 (by omega)
          have y3 := f4 (by omega)
          rw [y1] at y3 ⊢
          have y4 := o6 (endT T v) v (by omega) (by omega) y2 e1
          rw [← hm] at y2 y4
          rw [(dl_at2 (T := T) (m := m) (Nat.le_refl v)).2.2, if_neg (by omega)]
          omega
    · rw [if_neg c]
      have nest : endT T v ≤ endT T p := by
        by_cases z : endT T v ≤ endT T p
        · exact z
        · have y1 := e3 (endT T p) (by omega) (by omega)
          have y2 := f4 (by omega)
          omega
      refine endT_uniq (by omega) (by omega) (by omega) (fun j j1 j2 => ?_) (fun z => ?_)
      · by_cases y : j < v
        · rw [(dl_at1 (T := T) (m := m) y).2.2]
          exact f3 j j1 (by omega)
        · have y1 := f3 (j + m) (by omega) (by omega)
          have y2 := dl_pa ho hv hm (j := j + m) (by omega) (by omega)
          rw [(dl_at2 (T := T) (m := m) (show v ≤ j by omega)).2.2]
          split <;> omega
      · have y1 := f4 (by omega)
        rw [(dl_at2 (T := T) (m := m) (show v ≤ endT T p - m by omega)).2.2, show endT T p - m + m = endT T p by omega, if_neg (by omega)]
        exact y1
  · rw [if_pos (show v < p by omega), if_neg (show ¬ endT T p ≤ v by omega)]
    refine endT_uniq (by omega) (by omega) (by omega) (fun j j1 j2 => ?_) (fun z => ?_)
    · have y1 := f3 (j + m) (by omega) (by omega)
      rw [(dl_at2 (T := T) (m := m) (show v ≤ j by omega)).2.2, if_pos (by omega)]
      omega
    · have y1 := f4 (by omega)
      rw [(dl_at2 (T := T) (m := m) (show v ≤ endT T p - m by omega)).2.2, show endT T p - m + m = endT T p by omega]
      split <;> omega
theorem rowT.end0 {H : AH} {t : Nat} {T : Tr} {z : Int} (hR : rowT H t T) (hS : shTr H t) (hz : z = tn T) : isTr (si H t 0 z) t T := by
  refine ⟨(eqT.wi (S := fun b => b = t) (j := 0) (v := z) (h := H) rfl).shTr hS, (gi_at rfl rfl).trans hz, fun k hk => ?_⟩
  obtain ⟨a1, a2, a3, a4, a5, a6⟩ := hR k hk
  exact ⟨(gi_ne (Or.inl (by omega))).trans a1, (gi_ne (Or.inl (by omega))).trans a2, (gi_ne (Or.inl (by omega))).trans a3, (gi_ne (Or.inl (by omega))).trans a4, a5, a6⟩
def S9U (t : Nat) : Nat → Prop := fun b => t ≤ b ∧ b ≤ t + 9
theorem c_cut {γ : GG} {t v : Nat} {T : Tr} {h : AH} (hT : isTr h t T) (ho : okTr T) (hv1 : 1 ≤ v) (hv : v < tn T) : Call γ mX10_cut 3 0 0 [vr (some t), vi (v : Int)] h (rE (vi ((tn T - (endT T v - v) : Nat) : Int)) (fun h' => isTr h' t (dlT T v (endT T v - v)) ∧ eqT (S9U t) h h')) := by
  obtain ⟨hS, h0, hc⟩ := hT
  obtain ⟨o1, o2, o3, o4, o5, o6⟩ := ho.o
  obtain ⟨e1, e2, e3, e4⟩ := endT_spec hv
  obtain ⟨m, hm⟩ : ∃ m, v + m = endT T v := ⟨endT T v - v, by omega⟩
  have hm2 : endT T v - v = m := by omega
  rw [hm2]
  have hn : tn (dlT T v m) = tn T - m := rfl
  have c4 := (hc v hv).2.2.2.1
  have d0 := dlO_s v m 0
  have CA := c_arrange (γ := γ) (T := dlT T v m) hS h0 (arO_cut (L := tn T) (f := v) (m := m) (by omega) o2) (dl_ok ho hv1 hv hm) rfl (fun k hk => by
    have s := dlO_s v m k
    obtain ⟨x1, x2⟩ := dl_o (T := T) (v := v) (m := m) (k := k)
    obtain ⟨y1, y2, -⟩ := hc (dlO v m k) (by omega)
    exact ⟨y1.trans x1.symm, y2.trans x2.symm⟩) (by
    rw [show dlO v m 0 = 0 by omega]
    exact (hc 0 (by omega)).2.2.1.trans o4) (fun k k1 k2 => by
    have s := dlO_s v m k
    obtain ⟨p, q, p1, p2, p3, p4, p5, -⟩ := dl_par ho hv1 hv hm k1 k2
    exact ⟨p, q, (hc (dlO v m k) (by omega)).2.2.1.trans p1, p2, by omega, p4, p5⟩) ((hc 0 (by omega)).2.2.2.2.2.trans (anS_0 T))
  have ee : (endT T v : Int) - 1 + 1 = ((v + m : Nat) : Int) := by omega
  obtain ⟨hk, ⟨r1, k1⟩, ⟨r2, k2⟩, ⟨r3, k3⟩, ⟨r4, k4⟩, ⟨r5, k5⟩, ⟨r6, k6⟩, ⟨r7, k7⟩, ⟨r8, k8⟩, ⟨r9, k9⟩⟩ := hS
  refine Call.of (ls := [(0, vr (some t)), (1, vi (v : Int))]) vX10_cut.1 (Nat.le_of_ble_eq_true rfl) rfl ?_
  refine aw_aload_n dX10_cut_0 rfl ?_
  refine aw_aload_n dX10_cut_1 rfl ?_
  refine aw_iload_n dX10_cut_2 rfl ?_
  refine aw_aload_n dX10_cut_3 rfl ?_
  refine aw_getr' (j := 4) dX10_cut_4 fX10_25 rfl (by assumption) rfl (by assumption) ?_
  refine aw_iload_n dX10_cut_7 rfl ?_
  refine aw_iald' dX10_cut_8 (by assumption) (by omega) (by first | decide | omega) c4 ?_
  refine aw_iconst dX10_cut_9 ?_
  refine aw_iadd dX10_cut_10 ?_
  rw [ee]
  refine aw_iconst dX10_cut_11 ?_
  refine aw_invV_e dX10_cut_12 vX10_arrange kX10_50 rfl (CA) ⟨_, (by assumption), _, _, rfl⟩ rfl rfl (by decide) (by decide) (by decide) (Nat.le_of_ble_eq_true rfl) (fun H1 hP9 => ?_)
  obtain ⟨E1, R1, N1⟩ := hP9
  have hS2 := E1.shTr ⟨hk, ⟨r1, k1⟩, ⟨r2, k2⟩, ⟨r3, k3⟩, ⟨r4, k4⟩, ⟨r5, k5⟩, ⟨r6, k6⟩, ⟨r7, k7⟩, ⟨r8, k8⟩, ⟨r9, k9⟩⟩
  clear hk r1 k1 r2 k2 r3 k3 r4 k4 r5 k5 r6 k6 r7 k7 r8 k8 r9 k9
  have hS3 := hS2
  obtain ⟨hk, ⟨r1, k1⟩, ⟨r2, k2⟩, ⟨r3, k3⟩, ⟨r4, k4⟩, ⟨r5, k5⟩, ⟨r6, k6⟩, ⟨r7, k7⟩, ⟨r8, k8⟩, ⟨r9, k9⟩⟩ := hS2
  refine aw_puti' (j := 0) rfl dX10_cut_15 fX10_9 (by assumption) rfl ?_
  refine aw_aload_n dX10_cut_18 rfl ?_
  refine aw_geti' (j := 0) dX10_cut_19 fX10_9 rfl (by assumption) rfl (gi_at rfl rfl) ?_
  exact aw_ireturn dX10_cut_22 rfl (Or.inl rfl) ⟨rfl, R1.end0 hS3 (by rw [hn]), (E1.mono (fun b hb => by unfold S9T at hb; unfold S9U; omega)).tr (eqT.wi (by unfold S9U; omega))⟩
