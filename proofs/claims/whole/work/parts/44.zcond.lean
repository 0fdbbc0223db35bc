/-! ===== Parser: conditions ===== -/
/-- the predicate that is read, in the step at hand -/
def isW (h : AH) (p : Nat) (π : Nat → Nat) (ρ : Nat → Nat → Nat) (Q : TQ) (T : Bool × List TS) (s : TS) (pr : TP) (al : TA) (ps : List TP) : Prop :=
  isZ0 h p π ρ Q T.1 (T.2 ++ [(s.1, ps)]) ∧ T.2.length < 8 ∧ gr h p 2 = some (p + 1 + 2 + 18 * π Q.length + 2 + 2 * ρ (π Q.length) T.2.length) ∧ gi h p 5 = 9 * s.2.length + 3 * pr.length + al.length ∧ s.2.length < 3 ∧ pr.length ≤ 2 ∧ al.length ≤ 2 ∧ ps.length = s.2.length + 1 ∧ ∀ k, k ≠ 9 * s.2.length + 3 * pr.length + al.length → cAt ps k = cAt (s.2 ++ [pr ++ al1 al]) k
theorem isW.ob {h : AH} {p : Nat} {π : Nat → Nat} {ρ : Nat → Nat → Nat} {Q : TQ} {T : Bool × List TS} {s : TS} {pr : TP} {al : TA} {ps : List TP} (hW : isW h p π ρ Q T s pr al ps) : π Q.length < 4 ∧ ρ (π Q.length) T.2.length < 8 ∧ isS h (p + 1 + 2 + 18 * π Q.length + 2 + 2 * ρ (π Q.length) T.2.length) (s.1, ps) := ⟨hW.1.ob.2.1, hW.1.ob.2.2.1 _ hW.2.1, hW.1.st⟩
theorem isW.put {h : AH} {p : Nat} {π : Nat → Nat} {ρ : Nat → Nat → Nat} {Q : TQ} {T : Bool × List TS} {s : TS} {pr : TP} {al : TA} {ps : List TP} (hW : isW h p π ρ Q T s pr al ps) {c : TC} {k z : Int} (ek : k = 9 * s.2.length + 3 * pr.length + al.length) (ez : z = pk c) : isZ0 (si h (p + 1 + 2 + 18 * π Q.length + 2 + 2 * ρ (π Q.length) T.2.length + 1) k z) p π ρ Q T.1 (T.2 ++ [(s.1, s.2 ++ [pr ++ [al ++ [c]]])]) ∧ eqO h (si h (p + 1 + 2 + 18 * π Q.length + 2 + 2 * ρ (π Q.length) T.2.length + 1) k z) (p + 3) (p + 75) := by
  obtain ⟨x1, x2, x3⟩ := hW.ob
  obtain ⟨w1, w2, w3, w4, w5, w6, w7, w8, w9⟩ := hW
  have hS := isS_put (c := c) x3 w8 w6 w7 (by omega) w9 ek ez
  exact ⟨w1.set w2 hS (eqO.si (by omega) (by omega)), eqO.si (by omega) (by omega)⟩
theorem isW_si {h : AH} {p : Nat} {π : Nat → Nat} {ρ : Nat → Nat → Nat} {Q : TQ} {T : Bool × List TS} {s : TS} {pr : TP} {al : TA} {ps : List TP} {j v : Int} (hW : isW h p π ρ Q T s pr al ps) (hj : j ≠ 5) : isW (si h p j v) p π ρ Q T s pr al ps := ⟨hW.1.wi, hW.2.1, hW.2.2.1, (gi_ne (Or.inr (by omega))).trans hW.2.2.2.1, hW.2.2.2.2⟩
theorem b_orD : ∀ k : Nat, k < 4 → ∀ d : Nat, d < 10 → ∀ ng : Bool, Int32.ofInt ((k : Int) + 1 + 64 * (d : Int)) ||| Int32.ofInt (if ng = true then 8 else 0) = Int32.ofInt (pk (ng, (k : Int), (d : Int), [])) := by decide
theorem b_or2 : ∀ ng : Bool, Int32.ofInt 2 ||| Int32.ofInt (if ng = true then 8 else 0) = Int32.ofInt (pk (ng, 1, 0, [])) := by decide
theorem b_or4 : ∀ ng : Bool, Int32.ofInt 4 ||| Int32.ofInt (if ng = true then 8 else 0) = Int32.ofInt (pk (ng, 3, 0, [])) := by decide
theorem pks_snoc (l : List (Int × Int)) (x : Int × Int) : pks (l ++ [x]) = pks l + (x.1 + 16 * x.2) * 256 ^ l.length := by
  induction l with
  | nil => simp [pks]
  | cons y r ih =>
    simp only [List.cons_append, pks, List.length_cons, ih, Int.pow_succ, Int.mul_add, Int.mul_assoc]
    rw [show (256 : Int) ^ r.length * 256 = 256 * 256 ^ r.length from Int.mul_comm _ _]
    rw [← Int.mul_assoc 256, ← Int.mul_assoc (x.1 + 16 * x.2) 256, Int.mul_comm (x.1 + 16 * x.2) 256]
    omega
theorem pow_68 (k : Nat) : ((2 ^ (6 + 8 * k) : Nat) : Int) = 64 * 256 ^ k := by
  rw [Nat.pow_add, Nat.pow_mul]
  simp
theorem pk_shd {ng : Bool} {sh : List (Int × Int)} (h : sh.length ≤ 2) (hx : ∀ x ∈ sh, okT x) : 0 ≤ pk (ng, 3, 0, sh) ∧ pk (ng, 3, 0, sh) < ((2 ^ (6 + 8 * sh.length) : Nat) : Int) ∧ pk (ng, 3, 0, sh) / 16 % 4 = sh.length ∧ pk (ng, 3, 0, sh) < 2147483648 := by
  obtain ⟨b1, b2⟩ := pks_bd sh hx
  rw [pow_68]
  have h3 : sh.length = 0 ∨ sh.length = 1 ∨ sh.length = 2 := by omega
  simp only [pk]
  rcases h3 with h3 | h3 | h3 <;> rw [h3] at b2 ⊢ <;> simp only [Int.pow_succ, Int.pow_zero] at b2 ⊢ <;> cases ng <;> simp <;> omega
theorem pk_snoc (ng : Bool) (sh : List (Int × Int)) (x : Int × Int) : pk (ng, 3, 0, sh) + (x.1 + 16 * x.2) * ((2 ^ (6 + 8 * sh.length) : Nat) : Int) + 16 = pk (ng, 3, 0, sh ++ [x]) := by
  rw [pow_68]
  simp only [pk, pks_snoc, List.length_append, List.length_singleton]
  rw [show (x.1 + 16 * x.2) * (64 * 256 ^ sh.length) = 64 * ((x.1 + 16 * x.2) * 256 ^ sh.length) by rw [← Int.mul_assoc, Int.mul_comm _ 64, Int.mul_assoc]]
  omega
theorem c_zDig {γ : GG} {h : AH} {p : Nat} {π : Nat → Nat} {ρ : Nat → Nat → Nat} {Q : TQ} {T : Bool × List TS} {s : TS} {pr : TP} {al : TA} {ch lo k : Nat} {ng : Bool} (hc : ch < 128) (hlo : 48 ≤ lo ∧ lo < 58) (hk3 : k < 4) (hW : isW h p π ρ Q T s pr al (s.2 ++ [pr ++ al1 al])) (h6 : gi h p 6 = if ng = true then 8 else 0) : Call γ mX3_acceptsDigit 1 0 0 [vr (some p), vi (ch : Int), vi (lo : Int), vi ((k : Int) + 1)] h (rE (vi (bO (a_dig ch lo k ng Q T s pr al))) (zE h p π ρ (a_dig ch lo k ng Q T s pr al))) := by
  obtain ⟨x1, x2, x3⟩ := hW.ob
  have hk := hW.1.1
  have hr2 := hW.2.2.1
  have h5 := hW.2.2.2.1
  have b1 := hW.2.2.2.2.1
  have b2 := hW.2.2.2.2.2.1
  have b3 := hW.2.2.2.2.2.2.1
  have hks : kd h (p + 1 + 2 + 18 * π Q.length + 2 + 2 * ρ (π Q.length) T.2.length) = some (.inl 7) := x3.1.1
  unfold a_dig
  by_cases q : ch < lo ∨ 57 < ch
  · rw [if_pos q]
    refine Call.of (ls := [(0, vr (some p)), (1, vi (ch : Int)), (2, vi (lo : Int)), (3, vi ((k : Int) + 1))]) vX3_acceptsDigit.1 (Nat.le_of_ble_eq_true rfl) rfl ?_
    refine aw_iload_n dX3_acceptsDigit_0 rfl ?_
    refine aw_iload_n dX3_acceptsDigit_1 rfl ?_
    refine aw_ic_lt (tgt := 11) dX3_acceptsDigit_2 rfl (by omega) (by omega) (fun c2 => ?_) (fun c2 => ?_)
    · refine aw_iconst dX3_acceptsDigit_11 ?_
      exact aw_zreturn dX3_acceptsDigit_12 rfl (by omega) (Or.inl rfl) ⟨rfl, zE_none hW.1.sh eqO.rf⟩
    · refine aw_iload_n dX3_acceptsDigit_5 rfl ?_
      refine aw_bipush dX3_acceptsDigit_6 rfl ?_
      refine aw_ic_le (tgt := 13) dX3_acceptsDigit_8 rfl (by omega) (by omega) (fun c8 => ?_) (fun c8 => ?_)
      · exact absurd q (by omega)
      · refine aw_iconst dX3_acceptsDigit_11 ?_
        exact aw_zreturn dX3_acceptsDigit_12 rfl (by omega) (Or.inl rfl) ⟨rfl, zE_none hW.1.sh eqO.rf⟩
  · rw [if_neg q]
    obtain ⟨g, hg⟩ : ∃ g : Nat, (ch : Int) - 48 = g := ⟨ch - 48, by omega⟩
    have K := c_withDigit (γ := γ) (h := h) (k := (k : Int) + 1) (g := (ch : Int) - 48) (by omega) (by omega)
    have KS := c_setC (γ := γ) (h := h) (k := 9 * (s.2.length : Int) + 3 * (pr.length : Int) + (al.length : Int)) (z := pk (ng, (k : Int), (ch : Int) - 48, [])) x3.1 (by omega)
    obtain ⟨y1, y2⟩ := hW.put (c := (ng, (k : Int), (ch : Int) - 48, [])) rfl rfl
    refine Call.of (ls := [(0, vr (some p)), (1, vi (ch : Int)), (2, vi (lo : Int)), (3, vi ((k : Int) + 1))]) vX3_acceptsDigit.1 (Nat.le_of_ble_eq_true rfl) rfl ?_
    refine aw_iload_n dX3_acceptsDigit_0 rfl ?_
    refine aw_iload_n dX3_acceptsDigit_1 rfl ?_
    refine aw_ic_lt (tgt := 11) dX3_acceptsDigit_2 rfl (by omega) (by omega) (fun c2 => ?_) (fun c2 => ?_)
    · exact absurd c2 (by omega)
    · refine aw_iload_n dX3_acceptsDigit_5 rfl ?_
      refine aw_bipush dX3_acceptsDigit_6 rfl ?_
      refine aw_ic_le (tgt := 13) dX3_acceptsDigit_8 rfl (by omega) (by omega) (fun c8 => ?_) (fun c8 => ?_)
      · refine aw_aload_n dX3_acceptsDigit_13 rfl ?_
        refine aw_getr' (j := 2) dX3_acceptsDigit_14 fX3_32 rfl (by assumption) rfl (by assumption) ?_
        refine aw_aload_n dX3_acceptsDigit_17 rfl ?_
        refine aw_geti' (j := 5) dX3_acceptsDigit_18 fX3_43 rfl (by assumption) rfl h5 ?_
        refine aw_iload_n dX3_acceptsDigit_21 rfl ?_
        refine aw_iload_n dX3_acceptsDigit_22 rfl ?_
        refine aw_bipush dX3_acceptsDigit_23 rfl ?_
        refine aw_isub dX3_acceptsDigit_25 ?_
        refine aw_invS_r dX3_acceptsDigit_26 sX0_withDigit kX3_138 rfl (K) rfl rfl (by decide) (by decide) (by decide) (Nat.le_of_ble_eq_true rfl) ?_
        refine aw_aload_n dX3_acceptsDigit_29 rfl ?_
        refine aw_geti' (j := 6) dX3_acceptsDigit_30 fX3_46 rfl (by assumption) rfl h6 ?_
        refine aw_ior (v := pk (ng, (k : Int), (ch : Int) - 48, [])) dX3_acceptsDigit_33 (by rw [hg]; exact b_orD k hk3 g (by omega) ng) ?_
        refine aw_invV_n dX3_acceptsDigit_34 vX8_setCondition kX3_134 rfl (KS) ⟨_, (by assumption), _, _, rfl⟩ rfl rfl (by decide) (by decide) (by decide) (Nat.le_of_ble_eq_true rfl) ?_
        refine aw_aload_n dX3_acceptsDigit_37 rfl ?_
        refine aw_bipush dX3_acceptsDigit_38 rfl ?_
        refine aw_puti' (j := 3) rfl dX3_acceptsDigit_40 fX3_36 (by assumption) rfl ?_
        refine aw_iconst dX3_acceptsDigit_43 ?_
        exact aw_zreturn dX3_acceptsDigit_44 rfl (by omega) (Or.inl rfl) ⟨rfl, zE_some ((y2.mono (by omega) (by omega)).tr (eqO.si (by omega) (by omega))) ⟨y1.wi, gi_at rfl rfl, fun q9 => absurd q9 (by simp), fun _ => hr2, fun _ => ((gi_ne (Or.inr (by omega))).trans ((y2.2 p (by omega)).2 5).1).trans h5, fun q9 => absurd q9 (by simp)⟩⟩
      · exact absurd c8 (by omega)
theorem b_atd : ∀ c : Nat, c < 128 → (c = 36 ∨ c = 61 ∨ c = 63) ∨ Op.lookupswitch.offset [(36, 35), (61, 60), (63, 68)] 93 (c : Int) = 93 := by decide
theorem c_zAtm {γ : GG} {h : AH} {p : Nat} {π : Nat → Nat} {ρ : Nat → Nat → Nat} {Q : TQ} {T : Bool × List TS} {s : TS} {pr : TP} {al : TA} {ch : Nat} {ng : Bool} (hc : ch < 128) (hW : isW h p π ρ Q T s pr al (s.2 ++ [pr ++ al1 al])) (h6 : gi h p 6 = if ng = true then 8 else 0) : Call γ mX3_acceptsAtom 2 0 0 [vr (some p), vi (ch : Int)] h (rE (vi (bO (a_atm ch ng Q T s pr al))) (zE h p π ρ (a_atm ch ng Q T s pr al))) := by
  obtain ⟨x1, x2, x3⟩ := hW.ob
  have hk := hW.1.1
  have hr2 := hW.2.2.1
  have h5 := hW.2.2.2.1
  have b1 := hW.2.2.2.2.1
  have b2 := hW.2.2.2.2.2.1
  have b3 := hW.2.2.2.2.2.2.1
  have hks : kd h (p + 1 + 2 + 18 * π Q.length + 2 + 2 * ρ (π Q.length) T.2.length) = some (.inl 7) := x3.1.1
  unfold a_atm
  refine Call.of (ls := [(0, vr (some p)), (1, vi (ch : Int))]) vX3_acceptsAtom.1 (Nat.le_of_ble_eq_true rfl) rfl ?_
  refine aw_iload_n dX3_acceptsAtom_0 rfl ?_
  by_cases q1 : ch = 36
  · subst q1
    rw [if_pos rfl]
    have KS := c_setC (γ := γ) (h := h) (k := 9 * (s.2.length : Int) + 3 * (pr.length : Int) + (al.length : Int)) (z := pk (ng, 1, 0, [])) x3.1 (by omega)
    obtain ⟨y1, y2⟩ := hW.put (c := (ng, 1, 0, [])) rfl rfl
    refine aw_lookup (off := 35) (tgt := 36) dX3_acceptsAtom_1 rfl (by omega) rfl rfl ?_
    refine aw_aload_n dX3_acceptsAtom_36 rfl ?_
    refine aw_getr' (j := 2) dX3_acceptsAtom_37 fX3_32 rfl (by assumption) rfl (by assumption) ?_
    refine aw_aload_n dX3_acceptsAtom_40 rfl ?_
    refine aw_geti' (j := 5) dX3_acceptsAtom_41 fX3_43 rfl (by assumption) rfl h5 ?_
    refine aw_iconst dX3_acceptsAtom_44 ?_
    refine aw_aload_n dX3_acceptsAtom_45 rfl ?_
    refine aw_geti' (j := 6) dX3_acceptsAtom_46 fX3_46 rfl (by assumption) rfl h6 ?_
    refine aw_ior (v := pk (ng, 1, 0, [])) dX3_acceptsAtom_49 (b_or2 ng) ?_
    refine aw_invV_n dX3_acceptsAtom_50 vX8_setCondition kX3_134 rfl (KS) ⟨_, (by assumption), _, _, rfl⟩ rfl rfl (by decide) (by decide) (by decide) (Nat.le_of_ble_eq_true rfl) ?_
    refine aw_aload_n dX3_acceptsAtom_53 rfl ?_
    refine aw_bipush dX3_acceptsAtom_54 rfl ?_
    refine aw_puti' (j := 3) rfl dX3_acceptsAtom_56 fX3_36 (by assumption) rfl ?_
    refine aw_iconst dX3_acceptsAtom_59 ?_
    exact aw_zreturn dX3_acceptsAtom_60 rfl (by omega) (Or.inl rfl) ⟨rfl, zE_some ((y2.mono (by omega) (by omega)).tr (eqO.si (by omega) (by omega))) ⟨y1.wi, gi_at rfl rfl, fun q9 => absurd q9 (by simp), fun _ => hr2, fun _ => ((gi_ne (Or.inr (by omega))).trans ((y2.2 p (by omega)).2 5).1).trans h5, fun q9 => absurd q9 (by simp)⟩⟩
  · rw [if_neg q1]
    by_cases q2 : ch = 61
    · subst q2
      rw [if_pos rfl]
      refine aw_lookup (off := 60) (tgt := 61) dX3_acceptsAtom_1 rfl (by omega) rfl rfl ?_
      refine aw_aload_n dX3_acceptsAtom_61 rfl ?_
      refine aw_bipush dX3_acceptsAtom_62 rfl ?_
      refine aw_puti' (j := 3) rfl dX3_acceptsAtom_64 fX3_36 (by assumption) rfl ?_
      refine aw_iconst dX3_acceptsAtom_67 ?_
      exact aw_zreturn dX3_acceptsAtom_68 rfl (by omega) (Or.inl rfl) ⟨rfl, zE_some (eqO.si (by omega) (by omega)) ⟨hW.1.wi, gi_at rfl rfl, fun q9 => absurd q9 (by simp), fun _ => hr2, fun _ => (gi_ne (Or.inr (by omega))).trans h5, fun _ => (gi_ne (Or.inr (by omega))).trans h6⟩⟩
    · rw [if_neg q2]
      by_cases q3 : ch = 63
      · subst q3
        rw [if_pos rfl]
        have KS := c_setC (γ := γ) (h := h) (k := 9 * (s.2.length : Int) + 3 * (pr.length : Int) + (al.length : Int)) (z := pk (ng, 3, 0, [])) x3.1 (by omega)
        obtain ⟨y1, y2⟩ := hW.put (c := (ng, 3, 0, [])) rfl rfl
        refine aw_lookup (off := 68) (tgt := 69) dX3_acceptsAtom_1 rfl (by omega) rfl rfl ?_
        refine aw_aload_n dX3_acceptsAtom_69 rfl ?_
        refine aw_getr' (j := 2) dX3_acceptsAtom_70 fX3_32 rfl (by assumption) rfl (by assumption) ?_
        refine aw_aload_n dX3_acceptsAtom_73 rfl ?_
        refine aw_geti' (j := 5) dX3_acceptsAtom_74 fX3_43 rfl (by assumption) rfl h5 ?_
        refine aw_iconst dX3_acceptsAtom_77 ?_
        refine aw_aload_n dX3_acceptsAtom_78 rfl ?_
        refine aw_geti' (j := 6) dX3_acceptsAtom_79 fX3_46 rfl (by assumption) rfl h6 ?_
        refine aw_ior (v := pk (ng, 3, 0, [])) dX3_acceptsAtom_82 (b_or4 ng) ?_
        refine aw_invV_n dX3_acceptsAtom_83 vX8_setCondition kX3_134 rfl (KS) ⟨_, (by assumption), _, _, rfl⟩ rfl rfl (by decide) (by decide) (by decide) (Nat.le_of_ble_eq_true rfl) ?_
        refine aw_aload_n dX3_acceptsAtom_86 rfl ?_
        refine aw_bipush dX3_acceptsAtom_87 rfl ?_
        refine aw_puti' (j := 3) rfl dX3_acceptsAtom_89 fX3_36 (by assumption) rfl ?_
        refine aw_iconst dX3_acceptsAtom_92 ?_
        exact aw_zreturn dX3_acceptsAtom_93 rfl (by omega) (Or.inl rfl) ⟨rfl, zE_some ((y2.mono (by omega) (by omega)).tr (eqO.si (by omega) (by omega))) ⟨y1.wi, gi_at rfl rfl, fun q9 => absurd q9 (by simp), fun _ => hr2, fun _ => ((gi_ne (Or.inr (by omega))).trans ((y2.2 p (by omega)).2 5).1).trans h5, fun q9 => absurd q9 (by simp)⟩⟩
      · rw [if_neg q3]
        refine aw_lookup (off := 93) (tgt := 94) dX3_acceptsAtom_1 rfl (by omega) ((b_atd ch hc).resolve_left (by omega)) rfl ?_
        have KD := c_zDig (γ := γ) (lo := 49) (k := 0) hc (by omega) (by omega) hW h6
        refine aw_aload_n dX3_acceptsAtom_94 rfl ?_
        refine aw_iload_n dX3_acceptsAtom_95 rfl ?_
        refine aw_bipush dX3_acceptsAtom_96 rfl ?_
        refine aw_iconst dX3_acceptsAtom_98 ?_
        refine aw_invV_e dX3_acceptsAtom_99 vX3_acceptsDigit kX3_91 rfl (KD) ⟨_, (by assumption), _, _, rfl⟩ rfl rfl (by decide) (by decide) (by decide) (Nat.le_of_ble_eq_true rfl) (fun h1 hP9 => ?_)
        have hE := hP9
        exact aw_zreturn dX3_acceptsAtom_102 rfl (by unfold bO; split <;> simp) (Or.inl rfl) ⟨rfl, hE⟩
theorem c_zCnd {γ : GG} {h : AH} {p : Nat} {π : Nat → Nat} {ρ : Nat → Nat → Nat} {Q : TQ} {T : Bool × List TS} {s : TS} {pr : TP} {al : TA} {ch : Nat} {c : TC} (hc : ch < 128) (hW : isW h p π ρ Q T s pr al (s.2 ++ [pr ++ al1 al])) : Call γ mX3_acceptsCondition 3 0 0 [vr (some p), vi (ch : Int)] h (rE (vi (bO (acc ch (5, 0, Q, T, s, pr, al, c)))) (zE h p π ρ (acc ch (5, 0, Q, T, s, pr, al, c)))) := by
  obtain ⟨x1, x2, x3⟩ := hW.ob
  have hk := hW.1.1
  have hr2 := hW.2.2.1
  have h5 := hW.2.2.2.1
  have b1 := hW.2.2.2.2.1
  have b2 := hW.2.2.2.2.2.1
  have b3 := hW.2.2.2.2.2.2.1
  have hks : kd h (p + 1 + 2 + 18 * π Q.length + 2 + 2 * ρ (π Q.length) T.2.length) = some (.inl 7) := x3.1.1
  simp only [acc]
  by_cases q : ch = 45
  · rw [if_pos q]
    refine Call.of (ls := [(0, vr (some p)), (1, vi (ch : Int))]) vX3_acceptsCondition.1 (Nat.le_of_ble_eq_true rfl) rfl ?_
    refine aw_aload_n dX3_acceptsCondition_0 rfl ?_
    refine aw_iload_n dX3_acceptsCondition_1 rfl ?_
    refine aw_bipush dX3_acceptsCondition_2 rfl ?_
    refine aw_ic_ne (tgt := 12) dX3_acceptsCondition_4 rfl (by omega) (by omega) (fun c4 => ?_) (fun c4 => ?_)
    · exact absurd c4 (by omega)
    · refine aw_bipush dX3_acceptsCondition_7 rfl ?_
      refine aw_goto (tgt := 13) dX3_acceptsCondition_9 rfl ?_
      refine aw_puti' (j := 6) rfl dX3_acceptsCondition_13 fX3_46 (by assumption) rfl ?_
      refine aw_iload_n dX3_acceptsCondition_16 rfl ?_
      refine aw_bipush dX3_acceptsCondition_17 rfl ?_
      refine aw_ic_eq (tgt := 28) dX3_acceptsCondition_19 rfl (by omega) (by omega) (fun c19 => ?_) (fun c19 => ?_)
      · refine aw_aload_n dX3_acceptsCondition_28 rfl ?_
        refine aw_bipush dX3_acceptsCondition_29 rfl ?_
        refine aw_puti' (j := 3) rfl dX3_acceptsCondition_31 fX3_36 (by assumption) rfl ?_
        refine aw_iconst dX3_acceptsCondition_34 ?_
        exact aw_zreturn dX3_acceptsCondition_35 rfl (by omega) (Or.inl rfl) ⟨rfl, zE_some ((eqO.si (by omega) (by omega)).tr (eqO.si (by omega) (by omega))) ⟨hW.1.wi.wi, gi_at rfl rfl, fun q9 => absurd q9 (by simp), fun _ => hr2, fun _ => ((gi_ne (Or.inr (by omega))).trans (gi_ne (Or.inr (by omega)))).trans h5, fun _ => (gi_ne (Or.inr (by omega))).trans (gi_at rfl rfl)⟩⟩
      · exact absurd c19 (by omega)
  · rw [if_neg q]
    have KA := c_zAtm (γ := γ) (h := si h p 6 0) (ng := false) hc (isW_si hW (by omega)) (gi_at rfl rfl)
    refine Call.of (ls := [(0, vr (some p)), (1, vi (ch : Int))]) vX3_acceptsCondition.1 (Nat.le_of_ble_eq_true rfl) rfl ?_
    refine aw_aload_n dX3_acceptsCondition_0 rfl ?_
    refine aw_iload_n dX3_acceptsCondition_1 rfl ?_
    refine aw_bipush dX3_acceptsCondition_2 rfl ?_
    refine aw_ic_ne (tgt := 12) dX3_acceptsCondition_4 rfl (by omega) (by omega) (fun c4 => ?_) (fun c4 => ?_)
    · refine aw_iconst dX3_acceptsCondition_12 ?_
      refine aw_puti' (j := 6) rfl dX3_acceptsCondition_13 fX3_46 (by assumption) rfl ?_
      refine aw_iload_n dX3_acceptsCondition_16 rfl ?_
      refine aw_bipush dX3_acceptsCondition_17 rfl ?_
      refine aw_ic_eq (tgt := 28) dX3_acceptsCondition_19 rfl (by omega) (by omega) (fun c19 => ?_) (fun c19 => ?_)
      · exact absurd c19 (by omega)
      · refine aw_aload_n dX3_acceptsCondition_22 rfl ?_
        refine aw_iload_n dX3_acceptsCondition_23 rfl ?_
        refine aw_invV_e dX3_acceptsCondition_24 vX3_acceptsAtom kX3_86 rfl (KA) ⟨_, (by assumption), _, _, rfl⟩ rfl rfl (by decide) (by decide) (by decide) (Nat.le_of_ble_eq_true rfl) (fun h1 hP9 => ?_)
        have hE := hP9
        exact aw_zreturn dX3_acceptsCondition_27 rfl (by unfold bO; split <;> simp) (Or.inl rfl) ⟨rfl, hE.tr (eqO.si (by omega) (by omega))⟩
    · exact absurd c4 (by omega)
theorem c_zStt {γ : GG} {h : AH} {p : Nat} {π : Nat → Nat} {ρ : Nat → Nat → Nat} {Q : TQ} {T : Bool × List TS} {s : TS} {pr : TP} {al : TA} {ch : Nat} {ng : Bool} {sh : List (Int × Int)} {ax : Int} (hc : ch < 128) (ha : 0 ≤ ax ∧ ax ≤ 9) (h2 : sh.length ≤ 2) (hx : ∀ x ∈ sh, okT x) (hW : isW h p π ρ Q T s pr al (s.2 ++ [pr ++ [al ++ [(ng, 3, 0, sh)]]])) (h4 : gi h p 4 = ax) : Call γ mX3_acceptsShortTest 2 0 0 [vr (some p), vi (ch : Int)] h (rE (vi (bO (a_stt (teN ch) ax Q T s pr al (ng, 3, 0, sh)))) (zE h p π ρ (a_stt (teN ch) ax Q T s pr al (ng, 3, 0, sh)))) := by
  obtain ⟨x1, x2, x3⟩ := hW.ob
  have hk := hW.1.1
  have hr2 := hW.2.2.1
  have h5 := hW.2.2.2.1
  have b1 := hW.2.2.2.2.1
  have b2 := hW.2.2.2.2.2.1
  have b3 := hW.2.2.2.2.2.2.1
  have hks : kd h (p + 1 + 2 + 18 * π Q.length + 2 + 2 * ρ (π Q.length) T.2.length) = some (.inl 7) := x3.1.1
  have bt := teN_bd (c := ch)
  have K := c_pTest (γ := γ) (h := h) hc
  unfold a_stt
  by_cases q : teN ch = -1
  · rw [if_pos q]
    refine Call.of (ls := [(0, vr (some p)), (1, vi (ch : Int))]) vX3_acceptsShortTest.1 (Nat.le_of_ble_eq_true rfl) rfl ?_
    refine aw_iload_n dX3_acceptsShortTest_0 rfl ?_
    refine aw_invS_r dX3_acceptsShortTest_1 sX3_testOf kX3_121 rfl (K) rfl rfl (by decide) (by decide) (by decide) (Nat.le_of_ble_eq_true rfl) ?_
    refine aw_istore_n (ls1 := [(2, _), (0, _), (1, _)]) dX3_acceptsShortTest_4 (by decide) rfl ?_
    refine aw_iload_n dX3_acceptsShortTest_5 rfl ?_
    refine aw_iconst dX3_acceptsShortTest_6 ?_
    refine aw_ic_ne (tgt := 12) dX3_acceptsShortTest_7 rfl (by omega) (by omega) (fun c7 => ?_) (fun c7 => ?_)
    · exact absurd c7 (by omega)
    · refine aw_iconst dX3_acceptsShortTest_10 ?_
      exact aw_zreturn dX3_acceptsShortTest_11 rfl (by omega) (Or.inl rfl) ⟨rfl, zE_none hW.1.sh eqO.rf⟩
  · rw [if_neg q]
    have KC := c_cAt (γ := γ) (h := h) (k := 9 * (s.2.length : Int) + 3 * (pr.length : Int) + (al.length : Int)) x3.1 (by omega)
    rw [if_pos (by omega)] at KC
    have ev : gi h ((p + 1 + 2 + 18 * π Q.length + 2 + 2 * ρ (π Q.length) T.2.length) + 1) (9 * (s.2.length : Int) + 3 * (pr.length : Int) + (al.length : Int)) = pk (ng, 3, 0, sh) := by
      have := x3.2.2.2.2 (9 * s.2.length + 3 * pr.length + al.length) (by omega)
      rw [show (s.1, s.2 ++ [pr ++ [al ++ [(ng, 3, 0, sh)]]]).2 = s.2 ++ [pr ++ [al ++ [((ng, 3, 0, sh) : TC)]]] from rfl, slotv_so, cAt_put b2 b3, if_pos rfl] at this
      exact this
    rw [ev] at KC
    obtain ⟨p1, p2, p3, p4⟩ := pk_shd (ng := ng) h2 hx
    have KW := c_withStep (γ := γ) (h := h) (a := ax) (t := teN ch) h2 ⟨p1, p2⟩ p3 ha (by omega)
    rw [show pk (ng, 3, 0, sh) + (ax + 16 * teN ch) * ((2 ^ (6 + 8 * sh.length) : Nat) : Int) + 16 = pk (ng, 3, 0, sh ++ [(ax, teN ch)]) from pk_snoc ng sh (ax, teN ch)] at KW
    have KS := c_setC (γ := γ) (h := h) (k := 9 * (s.2.length : Int) + 3 * (pr.length : Int) + (al.length : Int)) (z := pk (ng, 3, 0, sh ++ [(ax, teN ch)])) x3.1 (by omega)
    obtain ⟨y1, y2⟩ := hW.put (c := (ng, 3, 0, sh ++ [(ax, teN ch)])) rfl rfl
    refine Call.of (ls := [(0, vr (some p)), (1, vi (ch : Int))]) vX3_acceptsShortTest.1 (Nat.le_of_ble_eq_true rfl) rfl ?_
    refine aw_iload_n dX3_acceptsShortTest_0 rfl ?_
    refine aw_invS_r dX3_acceptsShortTest_1 sX3_testOf kX3_121 rfl (K) rfl rfl (by decide) (by decide) (by decide) (Nat.le_of_ble_eq_true rfl) ?_
    refine aw_istore_n (ls1 := [(2, _), (0, _), (1, _)]) dX3_acceptsShortTest_4 (by decide) rfl ?_
    refine aw_iload_n dX3_acceptsShortTest_5 rfl ?_
    refine aw_iconst dX3_acceptsShortTest_6 ?_
    refine aw_ic_ne (tgt := 12) dX3_acceptsShortTest_7 rfl (by omega) (by omega) (fun c7 => ?_) (fun c7 => ?_)
    · refine aw_aload_n dX3_acceptsShortTest_12 rfl ?_
      refine aw_getr' (j := 2) dX3_acceptsShortTest_13 fX3_32 rfl (by assumption) rfl (by assumption) ?_
      refine aw_aload_n dX3_acceptsShortTest_16 rfl ?_
      refine aw_geti' (j := 5) dX3_acceptsShortTest_17 fX3_43 rfl (by assumption) rfl h5 ?_
      refine aw_aload_n dX3_acceptsShortTest_20 rfl ?_
      refine aw_getr' (j := 2) dX3_acceptsShortTest_21 fX3_32 rfl (by assumption) rfl (by assumption) ?_
      refine aw_aload_n dX3_acceptsShortTest_24 rfl ?_
      refine aw_geti' (j := 5) dX3_acceptsShortTest_25 fX3_43 rfl (by assumption) rfl h5 ?_
      refine aw_invV_r dX3_acceptsShortTest_28 vX8_conditionAt kX3_142 rfl (KC) ⟨_, (by assumption), _, _, rfl⟩ rfl rfl (by decide) (by decide) (by decide) (Nat.le_of_ble_eq_true rfl) ?_
      refine aw_aload_n dX3_acceptsShortTest_31 rfl ?_
      refine aw_geti' (j := 4) dX3_acceptsShortTest_32 fX3_40 rfl (by assumption) rfl h4 ?_
      refine aw_iload_n dX3_acceptsShortTest_35 rfl ?_
      refine aw_invS_r dX3_acceptsShortTest_36 sX0_withStep kX3_145 rfl (KW) rfl rfl (by decide) (by decide) (by decide) (Nat.le_of_ble_eq_true rfl) ?_
      refine aw_invV_n dX3_acceptsShortTest_39 vX8_setCondition kX3_134 rfl (KS) ⟨_, (by assumption), _, _, rfl⟩ rfl rfl (by decide) (by decide) (by decide) (Nat.le_of_ble_eq_true rfl) ?_
      refine aw_aload_n dX3_acceptsShortTest_42 rfl ?_
      refine aw_bipush dX3_acceptsShortTest_43 rfl ?_
      refine aw_puti' (j := 3) rfl dX3_acceptsShortTest_45 fX3_36 (by assumption) rfl ?_
      refine aw_iconst dX3_acceptsShortTest_48 ?_
      exact aw_zreturn dX3_acceptsShortTest_49 rfl (by omega) (Or.inl rfl) ⟨rfl, zE_some ((y2.mono (by omega) (by omega)).tr (eqO.si (by omega) (by omega))) ⟨y1.wi, gi_at rfl rfl, fun q9 => absurd q9 (by simp), fun _ => hr2, fun _ => ((gi_ne (Or.inr (by omega))).trans ((y2.2 p (by omega)).2 5).1).trans h5, fun q9 => absurd q9 (by simp)⟩⟩
    · exact absurd c7 (by omega)
theorem c_zSst {γ : GG} {h : AH} {p : Nat} {π : Nat → Nat} {ρ : Nat → Nat → Nat} {Q : TQ} {T : Bool × List TS} {s : TS} {pr : TP} {al : TA} {ch : Nat} {ng : Bool} {sh : List (Int × Int)} (hc : ch < 128) (h2 : sh.length ≤ 2) (hx : ∀ x ∈ sh, okT x) (hW : isW h p π ρ Q T s pr al (s.2 ++ [pr ++ [al ++ [(ng, 3, 0, sh)]]])) : Call γ mX3_acceptsShortStep 5 0 0 [vr (some p), vi (ch : Int)] h (rE (vi (bO (acc ch (8, 0, Q, T, s, pr, al, (ng, 3, 0, sh))))) (zE h p π ρ (acc ch (8, 0, Q, T, s, pr, al, (ng, 3, 0, sh))))) := by
  obtain ⟨x1, x2, x3⟩ := hW.ob
  have hk := hW.1.1
  have hr2 := hW.2.2.1
  have h5 := hW.2.2.2.1
  have b1 := hW.2.2.2.2.1
  have b2 := hW.2.2.2.2.2.1
  have b3 := hW.2.2.2.2.2.2.1
  have hks : kd h (p + 1 + 2 + 18 * π Q.length + 2 + 2 * ρ (π Q.length) T.2.length) = some (.inl 7) := x3.1.1
  have bt := axN_bd ch hc
  have K := c_pAxis (γ := γ) (h := h) hc
  simp only [acc]
  by_cases q : axN ch = 0
  · rw [if_pos q]
    have KT := c_zStt (γ := γ) (h := si h p 4 (axN ch)) (ax := 0) hc (by omega) h2 hx (isW_si hW (by omega)) (by rw [gi_at rfl rfl]; exact q)
    refine Call.of (ls := [(0, vr (some p)), (1, vi (ch : Int))]) vX3_acceptsShortStep.1 (Nat.le_of_ble_eq_true rfl) rfl ?_
    refine aw_aload_n dX3_acceptsShortStep_0 rfl ?_
    refine aw_iload_n dX3_acceptsShortStep_1 rfl ?_
    refine aw_invS_r dX3_acceptsShortStep_2 sX3_axisOf kX3_118 rfl (K) rfl rfl (by decide) (by decide) (by decide) (Nat.le_of_ble_eq_true rfl) ?_
    refine aw_puti' (j := 4) rfl dX3_acceptsShortStep_5 fX3_40 (by assumption) rfl ?_
    refine aw_aload_n dX3_acceptsShortStep_8 rfl ?_
    refine aw_geti' (j := 4) dX3_acceptsShortStep_9 fX3_40 rfl (by assumption) rfl (gi_at rfl rfl) ?_
    refine aw_if_ne (tgt := 21) dX3_acceptsShortStep_12 rfl (by omega) (fun c12 => ?_) (fun c12 => ?_)
    · exact absurd c12 (by omega)
    · refine aw_aload_n dX3_acceptsShortStep_15 rfl ?_
      refine aw_iload_n dX3_acceptsShortStep_16 rfl ?_
      refine aw_invV_e dX3_acceptsShortStep_17 vX3_acceptsShortTest kX3_98 rfl (KT) ⟨_, (by assumption), _, _, rfl⟩ rfl rfl (by decide) (by decide) (by decide) (Nat.le_of_ble_eq_true rfl) (fun h1 hP9 => ?_)
      have hE := hP9
      exact aw_zreturn dX3_acceptsShortStep_20 rfl (by unfold bO; split <;> simp) (Or.inl rfl) ⟨rfl, hE.tr (eqO.si (by omega) (by omega))⟩
  · rw [if_neg q]
    refine Call.of (ls := [(0, vr (some p)), (1, vi (ch : Int))]) vX3_acceptsShortStep.1 (Nat.le_of_ble_eq_true rfl) rfl ?_
    refine aw_aload_n dX3_acceptsShortStep_0 rfl ?_
    refine aw_iload_n dX3_acceptsShortStep_1 rfl ?_
    refine aw_invS_r dX3_acceptsShortStep_2 sX3_axisOf kX3_118 rfl (K) rfl rfl (by decide) (by decide) (by decide) (Nat.le_of_ble_eq_true rfl) ?_
    refine aw_puti' (j := 4) rfl dX3_acceptsShortStep_5 fX3_40 (by assumption) rfl ?_
    refine aw_aload_n dX3_acceptsShortStep_8 rfl ?_
    refine aw_geti' (j := 4) dX3_acceptsShortStep_9 fX3_40 rfl (by assumption) rfl (gi_at rfl rfl) ?_
    refine aw_if_ne (tgt := 21) dX3_acceptsShortStep_12 rfl (by omega) (fun c12 => ?_) (fun c12 => ?_)
    · refine aw_aload_n dX3_acceptsShortStep_21 rfl ?_
      refine aw_bipush dX3_acceptsShortStep_22 rfl ?_
      refine aw_puti' (j := 3) rfl dX3_acceptsShortStep_24 fX3_36 (by assumption) rfl ?_
      refine aw_iconst dX3_acceptsShortStep_27 ?_
      exact aw_zreturn dX3_acceptsShortStep_28 rfl (by omega) (Or.inl rfl) ⟨rfl, zE_some ((eqO.si (by omega) (by omega)).tr (eqO.si (by omega) (by omega))) ⟨hW.1.wi.wi, gi_at rfl rfl, fun _ => (gi_ne (Or.inr (by omega))).trans (gi_at rfl rfl), fun _ => hr2, fun _ => ((gi_ne (Or.inr (by omega))).trans (gi_ne (Or.inr (by omega)))).trans h5, fun q9 => absurd q9 (by simp)⟩⟩
    · exact absurd c12 (by omega)
theorem c_zSsl {γ : GG} {h : AH} {p : Nat} {π : Nat → Nat} {ρ : Nat → Nat → Nat} {Q : TQ} {T : Bool × List TS} {s : TS} {pr : TP} {al : TA} {c : TC} (hC : okC c) (h3 : c.2.1 = 3) (hW : isW h p π ρ Q T s pr al (s.2 ++ [pr ++ [al ++ [c]]])) : Call γ mX3_acceptsShortSlash 1 0 0 [vr (some p)] h (rE (vi (bO (if c.2.2.2.length = 3 then none else some (8, 0, Q, T, s, pr, al, c)))) (zE h p π ρ (if c.2.2.2.length = 3 then none else some (8, 0, Q, T, s, pr, al, c)))) := by
  obtain ⟨x1, x2, x3⟩ := hW.ob
  have hk := hW.1.1
  have hr2 := hW.2.2.1
  have h5 := hW.2.2.2.1
  have b1 := hW.2.2.2.2.1
  have b2 := hW.2.2.2.2.2.1
  have b3 := hW.2.2.2.2.2.2.1
  have hks : kd h (p + 1 + 2 + 18 * π Q.length + 2 + 2 * ρ (π Q.length) T.2.length) = some (.inl 7) := x3.1.1
  have KC := c_cAt (γ := γ) (h := h) (k := 9 * (s.2.length : Int) + 3 * (pr.length : Int) + (al.length : Int)) x3.1 (by omega)
  rw [if_pos (by omega)] at KC
  have ev : gi h ((p + 1 + 2 + 18 * π Q.length + 2 + 2 * ρ (π Q.length) T.2.length) + 1) (9 * (s.2.length : Int) + 3 * (pr.length : Int) + (al.length : Int)) = pk c := by
    have := x3.2.2.2.2 (9 * s.2.length + 3 * pr.length + al.length) (by omega)
    rw [show (s.1, s.2 ++ [pr ++ [al ++ [c]]]).2 = s.2 ++ [pr ++ [al ++ [c]]] from rfl, slotv_so, cAt_put b2 b3, if_pos rfl] at this
    exact this
  rw [ev] at KC
  have pb := pk_bd hC
  have KN := c_stepsOf (γ := γ) (h := h) (c := pk c) (by omega)
  rw [pk_len hC] at KN
  have bl : c.2.2.2.length ≤ 3 := by rcases hC with q | q | q | q <;> omega
  by_cases q : c.2.2.2.length = 3
  · rw [if_pos q]
    refine Call.of (ls := [(0, vr (some p))]) vX3_acceptsShortSlash.1 (Nat.le_of_ble_eq_true rfl) rfl ?_
    refine aw_aload_n dX3_acceptsShortSlash_0 rfl ?_
    refine aw_getr' (j := 2) dX3_acceptsShortSlash_1 fX3_32 rfl (by assumption) rfl (by assumption) ?_
    refine aw_aload_n dX3_acceptsShortSlash_4 rfl ?_
    refine aw_geti' (j := 5) dX3_acceptsShortSlash_5 fX3_43 rfl (by assumption) rfl h5 ?_
    refine aw_invV_r dX3_acceptsShortSlash_8 vX8_conditionAt kX3_142 rfl (KC) ⟨_, (by assumption), _, _, rfl⟩ rfl rfl (by decide) (by decide) (by decide) (Nat.le_of_ble_eq_true rfl) ?_
    refine aw_invS_r dX3_acceptsShortSlash_11 sX0_stepsOf kX3_149 rfl (KN) rfl rfl (by decide) (by decide) (by decide) (Nat.le_of_ble_eq_true rfl) ?_
    refine aw_iconst dX3_acceptsShortSlash_14 ?_
    refine aw_ic_lt (tgt := 20) dX3_acceptsShortSlash_15 rfl (by omega) (by omega) (fun c15 => ?_) (fun c15 => ?_)
    · exact absurd c15 (by omega)
    · refine aw_iconst dX3_acceptsShortSlash_18 ?_
      exact aw_zreturn dX3_acceptsShortSlash_19 rfl (by omega) (Or.inl rfl) ⟨rfl, zE_none hW.1.sh eqO.rf⟩
  · rw [if_neg q]
    refine Call.of (ls := [(0, vr (some p))]) vX3_acceptsShortSlash.1 (Nat.le_of_ble_eq_true rfl) rfl ?_
    refine aw_aload_n dX3_acceptsShortSlash_0 rfl ?_
    refine aw_getr' (j := 2) dX3_acceptsShortSlash_1 fX3_32 rfl (by assumption) rfl (by assumption) ?_
    refine aw_aload_n dX3_acceptsShortSlash_4 rfl ?_
    refine aw_geti' (j := 5) dX3_acceptsShortSlash_5 fX3_43 rfl (by assumption) rfl h5 ?_
    refine aw_invV_r dX3_acceptsShortSlash_8 vX8_conditionAt kX3_142 rfl (KC) ⟨_, (by assumption), _, _, rfl⟩ rfl rfl (by decide) (by decide) (by decide) (Nat.le_of_ble_eq_true rfl) ?_
    refine aw_invS_r dX3_acceptsShortSlash_11 sX0_stepsOf kX3_149 rfl (KN) rfl rfl (by decide) (by decide) (by decide) (Nat.le_of_ble_eq_true rfl) ?_
    refine aw_iconst dX3_acceptsShortSlash_14 ?_
    refine aw_ic_lt (tgt := 20) dX3_acceptsShortSlash_15 rfl (by omega) (by omega) (fun c15 => ?_) (fun c15 => ?_)
    · refine aw_aload_n dX3_acceptsShortSlash_20 rfl ?_
      refine aw_bipush dX3_acceptsShortSlash_21 rfl ?_
      refine aw_puti' (j := 3) rfl dX3_acceptsShortSlash_23 fX3_36 (by assumption) rfl ?_
      refine aw_iconst dX3_acceptsShortSlash_26 ?_
      exact aw_zreturn dX3_acceptsShortSlash_27 rfl (by omega) (Or.inl rfl) ⟨rfl, zE_some (eqO.si (by omega) (by omega)) ⟨hW.1.wi, gi_at rfl rfl, fun q9 => absurd q9 (by simp), fun _ => hr2, fun _ => (gi_ne (Or.inr (by omega))).trans h5, fun q9 => absurd q9 (by simp)⟩⟩
    · exact absurd c15 (by omega)
theorem al1_snoc (al : TA) (c : TC) : al1 (al ++ [c]) = [al ++ [c]] := by
  unfold al1
  rw [if_neg (by simp)]
theorem c_zCend {γ : GG} {h : AH} {p : Nat} {π : Nat → Nat} {ρ : Nat → Nat → Nat} {Q : TQ} {T : Bool × List TS} {s : TS} {pr : TP} {al : TA} {c : TC} {ch : Nat} (hc : ch < 128) (hW : isW h p π ρ Q T s pr al (s.2 ++ [pr ++ [al ++ [c]]])) : Call γ mX3_acceptsConditionEnd 0 0 0 [vr (some p), vi (ch : Int)] h (rE (vi (bO (a_cend ch Q T s pr al c))) (zE h p π ρ (a_cend ch Q T s pr al c))) := by
  obtain ⟨x1, x2, x3⟩ := hW.ob
  have hk := hW.1.1
  have hr2 := hW.2.2.1
  have h5 := hW.2.2.2.1
  have b1 := hW.2.2.2.2.1
  have b2 := hW.2.2.2.2.2.1
  have b3 := hW.2.2.2.2.2.2.1
  have hks : kd h (p + 1 + 2 + 18 * π Q.length + 2 + 2 * ρ (π Q.length) T.2.length) = some (.inl 7) := x3.1.1
  have e1 : zP (5, 0, Q, T, s, pr, al ++ [c], c0) = T.2 ++ [(s.1, s.2 ++ [pr ++ [al ++ [c]]])] := by simp only [zP]; rw [if_neg (by omega), if_neg (by omega), if_pos (by omega), al1_snoc]
  have e2 : zP (5, 0, Q, T, s, pr ++ [al ++ [c]], [], c0) = T.2 ++ [(s.1, s.2 ++ [pr ++ [al ++ [c]]])] := by simp only [zP]; rw [if_neg (by omega), if_neg (by omega), if_pos (by omega)]; simp [al1]
  unfold a_cend
  by_cases q1 : ch = 93
  · rw [if_pos q1]
    refine Call.of (ls := [(0, vr (some p)), (1, vi (ch : Int))]) vX3_acceptsConditionEnd.1 (Nat.le_of_ble_eq_true rfl) rfl ?_
    refine aw_aload_n dX3_acceptsConditionEnd_0 rfl ?_
    refine aw_geti' (j := 5) dX3_acceptsConditionEnd_1 fX3_43 rfl (by assumption) rfl h5 ?_
    refine aw_bipush dX3_acceptsConditionEnd_4 rfl ?_
    refine aw_irem dX3_acceptsConditionEnd_6 (by omega) (by omega) ?_
    refine aw_istore_n (ls1 := [(2, _), (0, _), (1, _)]) dX3_acceptsConditionEnd_7 (by decide) rfl ?_
    refine aw_iload_n dX3_acceptsConditionEnd_8 rfl ?_
    refine aw_iconst dX3_acceptsConditionEnd_9 ?_
    refine aw_irem dX3_acceptsConditionEnd_10 (by omega) (by omega) ?_
    refine aw_istore_n (ls1 := [(3, _), (2, _), (0, _), (1, _)]) dX3_acceptsConditionEnd_11 (by decide) rfl ?_
    refine aw_iload_n dX3_acceptsConditionEnd_12 rfl ?_
    refine aw_bipush dX3_acceptsConditionEnd_13 rfl ?_
    refine aw_ic_ne (tgt := 25) dX3_acceptsConditionEnd_15 rfl (by omega) (by omega) (fun c15 => ?_) (fun c15 => ?_)
    · exact absurd c15 (by omega)
    · refine aw_aload_n dX3_acceptsConditionEnd_18 rfl ?_
      refine aw_iconst dX3_acceptsConditionEnd_19 ?_
      refine aw_puti' (j := 3) rfl dX3_acceptsConditionEnd_20 fX3_36 (by assumption) rfl ?_
      refine aw_iconst dX3_acceptsConditionEnd_23 ?_
      exact aw_zreturn dX3_acceptsConditionEnd_24 rfl (by omega) (Or.inl rfl) ⟨rfl, zE_some (eqO.si (by omega) (by omega)) ⟨hW.1.wi, gi_at rfl rfl, fun q9 => absurd q9 (by simp), fun _ => hr2, fun q9 => absurd q9 (by simp), fun q9 => absurd q9 (by simp)⟩⟩
  · rw [if_neg q1]
    by_cases q2 : ch = 44 ∧ al.length < 2
    · rw [if_pos q2]
      refine Call.of (ls := [(0, vr (some p)), (1, vi (ch : Int))]) vX3_acceptsConditionEnd.1 (Nat.le_of_ble_eq_true rfl) rfl ?_
      refine aw_aload_n dX3_acceptsConditionEnd_0 rfl ?_
      refine aw_geti' (j := 5) dX3_acceptsConditionEnd_1 fX3_43 rfl (by assumption) rfl h5 ?_
      refine aw_bipush dX3_acceptsConditionEnd_4 rfl ?_
      refine aw_irem dX3_acceptsConditionEnd_6 (by omega) (by omega) ?_
      refine aw_istore_n (ls1 := [(2, _), (0, _), (1, _)]) dX3_acceptsConditionEnd_7 (by decide) rfl ?_
      refine aw_iload_n dX3_acceptsConditionEnd_8 rfl ?_
      refine aw_iconst dX3_acceptsConditionEnd_9 ?_
      refine aw_irem dX3_acceptsConditionEnd_10 (by omega) (by omega) ?_
      refine aw_istore_n (ls1 := [(3, _), (2, _), (0, _), (1, _)]) dX3_acceptsConditionEnd_11 (by decide) rfl ?_
      refine aw_iload_n dX3_acceptsConditionEnd_12 rfl ?_
      refine aw_bipush dX3_acceptsConditionEnd_13 rfl ?_
      refine aw_ic_ne (tgt := 25) dX3_acceptsConditionEnd_15 rfl (by omega) (by omega) (fun c15 => ?_) (fun c15 => ?_)
      · refine aw_iload_n dX3_acceptsConditionEnd_25 rfl ?_
        refine aw_bipush dX3_acceptsConditionEnd_26 rfl ?_
        refine aw_ic_ne (tgt := 53) dX3_acceptsConditionEnd_28 rfl (by omega) (by omega) (fun c28 => ?_) (fun c28 => ?_)
        · exact absurd c28 (by omega)
        · refine aw_iload_n dX3_acceptsConditionEnd_31 rfl ?_
          refine aw_iconst dX3_acceptsConditionEnd_32 ?_
          refine aw_ic_ge (tgt := 53) dX3_acceptsConditionEnd_33 rfl (by omega) (by omega) (fun c33 => ?_) (fun c33 => ?_)
          · exact absurd c33 (by omega)
          · refine aw_aload_n dX3_acceptsConditionEnd_36 rfl ?_
            refine aw_dup dX3_acceptsConditionEnd_37 rfl ?_
            refine aw_geti' (j := 5) dX3_acceptsConditionEnd_38 fX3_43 rfl (by assumption) rfl h5 ?_
            refine aw_iconst dX3_acceptsConditionEnd_41 ?_
            refine aw_iadd dX3_acceptsConditionEnd_42 ?_
            refine aw_puti' (j := 5) rfl dX3_acceptsConditionEnd_43 fX3_43 (by assumption) rfl ?_
            refine aw_aload_n dX3_acceptsConditionEnd_46 rfl ?_
            refine aw_iconst dX3_acceptsConditionEnd_47 ?_
            refine aw_puti' (j := 3) rfl dX3_acceptsConditionEnd_48 fX3_36 (by assumption) rfl ?_
            refine aw_iconst dX3_acceptsConditionEnd_51 ?_
            exact aw_zreturn dX3_acceptsConditionEnd_52 rfl (by omega) (Or.inl rfl) ⟨rfl, zE_some ((eqO.si (by omega) (by omega)).tr (eqO.si (by omega) (by omega))) ⟨by rw [e1]; exact hW.1.wi.wi, gi_at rfl rfl, fun q9 => absurd q9 (by simp), fun _ => hr2, fun _ => ((gi_ne (Or.inr (by omega))).trans (gi_at rfl rfl)).trans (by simp only [List.length_append, List.length_singleton]; omega), fun q9 => absurd q9 (by simp)⟩⟩
      · exact absurd c15 (by omega)
    · rw [if_neg q2]
      by_cases q3 : ch = 43 ∧ pr.length < 2
      · rw [if_pos q3]
        refine Call.of (ls := [(0, vr (some p)), (1, vi (ch : Int))]) vX3_acceptsConditionEnd.1 (Nat.le_of_ble_eq_true rfl) rfl ?_
        refine aw_aload_n dX3_acceptsConditionEnd_0 rfl ?_
        refine aw_geti' (j := 5) dX3_acceptsConditionEnd_1 fX3_43 rfl (by assumption) rfl h5 ?_
        refine aw_bipush dX3_acceptsConditionEnd_4 rfl ?_
        refine aw_irem dX3_acceptsConditionEnd_6 (by omega) (by omega) ?_
        refine aw_istore_n (ls1 := [(2, _), (0, _), (1, _)]) dX3_acceptsConditionEnd_7 (by decide) rfl ?_
        refine aw_iload_n dX3_acceptsConditionEnd_8 rfl ?_
        refine aw_iconst dX3_acceptsConditionEnd_9 ?_
        refine aw_irem dX3_acceptsConditionEnd_10 (by omega) (by omega) ?_
        refine aw_istore_n (ls1 := [(3, _), (2, _), (0, _), (1, _)]) dX3_acceptsConditionEnd_11 (by decide) rfl ?_
        refine aw_iload_n dX3_acceptsConditionEnd_12 rfl ?_
        refine aw_bipush dX3_acceptsConditionEnd_13 rfl ?_
        refine aw_ic_ne (tgt := 25) dX3_acceptsConditionEnd_15 rfl (by omega) (by omega) (fun c15 => ?_) (fun c15 => ?_)
        · refine aw_iload_n dX3_acceptsConditionEnd_25 rfl ?_
          refine aw_bipush dX3_acceptsConditionEnd_26 rfl ?_
          refine aw_ic_ne (tgt := 53) dX3_acceptsConditionEnd_28 rfl (by omega) (by omega) (fun c28 => ?_) (fun c28 => ?_)
          · refine aw_iload_n dX3_acceptsConditionEnd_53 rfl ?_
            refine aw_bipush dX3_acceptsConditionEnd_54 rfl ?_
            refine aw_ic_ne (tgt := 84) dX3_acceptsConditionEnd_56 rfl (by omega) (by omega) (fun c56 => ?_) (fun c56 => ?_)
            · exact absurd c56 (by omega)
            · refine aw_iload_n dX3_acceptsConditionEnd_59 rfl ?_
              refine aw_bipush dX3_acceptsConditionEnd_60 rfl ?_
              refine aw_ic_ge (tgt := 84) dX3_acceptsConditionEnd_62 rfl (by omega) (by omega) (fun c62 => ?_) (fun c62 => ?_)
              · exact absurd c62 (by omega)
              · refine aw_aload_n dX3_acceptsConditionEnd_65 rfl ?_
                refine aw_dup dX3_acceptsConditionEnd_66 rfl ?_
                refine aw_geti' (j := 5) dX3_acceptsConditionEnd_67 fX3_43 rfl (by assumption) rfl h5 ?_
                refine aw_iconst dX3_acceptsConditionEnd_70 ?_
                refine aw_iload_n dX3_acceptsConditionEnd_71 rfl ?_
                refine aw_isub dX3_acceptsConditionEnd_72 ?_
                refine aw_iadd dX3_acceptsConditionEnd_73 ?_
                refine aw_puti' (j := 5) rfl dX3_acceptsConditionEnd_74 fX3_43 (by assumption) rfl ?_
                refine aw_aload_n dX3_acceptsConditionEnd_77 rfl ?_
                refine aw_iconst dX3_acceptsConditionEnd_78 ?_
                refine aw_puti' (j := 3) rfl dX3_acceptsConditionEnd_79 fX3_36 (by assumption) rfl ?_
                refine aw_iconst dX3_acceptsConditionEnd_82 ?_
                exact aw_zreturn dX3_acceptsConditionEnd_83 rfl (by omega) (Or.inl rfl) ⟨rfl, zE_some ((eqO.si (by omega) (by omega)).tr (eqO.si (by omega) (by omega))) ⟨by rw [e2]; exact hW.1.wi.wi, gi_at rfl rfl, fun q9 => absurd q9 (by simp), fun _ => hr2, fun _ => ((gi_ne (Or.inr (by omega))).trans (gi_at rfl rfl)).trans (by simp only [List.length_append, List.length_singleton, List.length_nil]; omega), fun q9 => absurd q9 (by simp)⟩⟩
          · exact absurd c28 (by omega)
        · exact absurd c15 (by omega)
      · rw [if_neg q3]
        refine Call.of (ls := [(0, vr (some p)), (1, vi (ch : Int))]) vX3_acceptsConditionEnd.1 (Nat.le_of_ble_eq_true rfl) rfl ?_
        refine aw_aload_n dX3_acceptsConditionEnd_0 rfl ?_
        refine aw_geti' (j := 5) dX3_acceptsConditionEnd_1 fX3_43 rfl (by assumption) rfl h5 ?_
        refine aw_bipush dX3_acceptsConditionEnd_4 rfl ?_
        refine aw_irem dX3_acceptsConditionEnd_6 (by omega) (by omega) ?_
        refine aw_istore_n (ls1 := [(2, _), (0, _), (1, _)]) dX3_acceptsConditionEnd_7 (by decide) rfl ?_
        refine aw_iload_n dX3_acceptsConditionEnd_8 rfl ?_
        refine aw_iconst dX3_acceptsConditionEnd_9 ?_
        refine aw_irem dX3_acceptsConditionEnd_10 (by omega) (by omega) ?_
        refine aw_istore_n (ls1 := [(3, _), (2, _), (0, _), (1, _)]) dX3_acceptsConditionEnd_11 (by decide) rfl ?_
        refine aw_iload_n dX3_acceptsConditionEnd_12 rfl ?_
        refine aw_bipush dX3_acceptsConditionEnd_13 rfl ?_
        refine aw_ic_ne (tgt := 25) dX3_acceptsConditionEnd_15 rfl (by omega) (by omega) (fun c15 => ?_) (fun c15 => ?_)
        · refine aw_iload_n dX3_acceptsConditionEnd_25 rfl ?_
          refine aw_bipush dX3_acceptsConditionEnd_26 rfl ?_
          refine aw_ic_ne (tgt := 53) dX3_acceptsConditionEnd_28 rfl (by omega) (by omega) (fun c28 => ?_) (fun c28 => ?_)
          · refine aw_iload_n dX3_acceptsConditionEnd_53 rfl ?_
            refine aw_bipush dX3_acceptsConditionEnd_54 rfl ?_
            refine aw_ic_ne (tgt := 84) dX3_acceptsConditionEnd_56 rfl (by omega) (by omega) (fun c56 => ?_) (fun c56 => ?_)
            · refine aw_iconst dX3_acceptsConditionEnd_84 ?_
              exact aw_zreturn dX3_acceptsConditionEnd_85 rfl (by omega) (Or.inl rfl) ⟨rfl, zE_none hW.1.sh eqO.rf⟩
            · refine aw_iload_n dX3_acceptsConditionEnd_59 rfl ?_
              refine aw_bipush dX3_acceptsConditionEnd_60 rfl ?_
              refine aw_ic_ge (tgt := 84) dX3_acceptsConditionEnd_62 rfl (by omega) (by omega) (fun c62 => ?_) (fun c62 => ?_)
              · refine aw_iconst dX3_acceptsConditionEnd_84 ?_
                exact aw_zreturn dX3_acceptsConditionEnd_85 rfl (by omega) (Or.inl rfl) ⟨rfl, zE_none hW.1.sh eqO.rf⟩
              · exact absurd q3 (by omega)
          · refine aw_iload_n dX3_acceptsConditionEnd_31 rfl ?_
            refine aw_iconst dX3_acceptsConditionEnd_32 ?_
            refine aw_ic_ge (tgt := 53) dX3_acceptsConditionEnd_33 rfl (by omega) (by omega) (fun c33 => ?_) (fun c33 => ?_)
            · refine aw_iload_n dX3_acceptsConditionEnd_53 rfl ?_
              refine aw_bipush dX3_acceptsConditionEnd_54 rfl ?_
              refine aw_ic_ne (tgt := 84) dX3_acceptsConditionEnd_56 rfl (by omega) (by omega) (fun c56 => ?_) (fun c56 => ?_)
              · refine aw_iconst dX3_acceptsConditionEnd_84 ?_
                exact aw_zreturn dX3_acceptsConditionEnd_85 rfl (by omega) (Or.inl rfl) ⟨rfl, zE_none hW.1.sh eqO.rf⟩
              · refine aw_iload_n dX3_acceptsConditionEnd_59 rfl ?_
                refine aw_bipush dX3_acceptsConditionEnd_60 rfl ?_
                refine aw_ic_ge (tgt := 84) dX3_acceptsConditionEnd_62 rfl (by omega) (by omega) (fun c62 => ?_) (fun c62 => ?_)
                · refine aw_iconst dX3_acceptsConditionEnd_84 ?_
                  exact aw_zreturn dX3_acceptsConditionEnd_85 rfl (by omega) (Or.inl rfl) ⟨rfl, zE_none hW.1.sh eqO.rf⟩
                · exact absurd q3 (by omega)
            · exact absurd q2 (by omega)
        · exact absurd c15 (by omega)
