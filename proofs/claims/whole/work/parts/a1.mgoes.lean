/-! ===== the model: short paths ===== -/
theorem anyN_iff {p : Nat → Bool} : ∀ n, anyN p n = true ↔ ∃ k, k < n ∧ p k = true := by
  intro n
  induction n with
  | zero => simp [anyN]
  | succ n ih =>
    simp only [anyN, Bool.or_eq_true, ih]
    constructor
    · rintro (⟨k, k1, k2⟩ | k2)
      · exact ⟨k, by omega, k2⟩
      · exact ⟨n, by omega, k2⟩
    · rintro ⟨k, k1, k2⟩
      by_cases z : k = n
      · subst z; exact Or.inr k2
      · exact Or.inl ⟨k, by omega, k2⟩
theorem bool_ext {a b : Bool} (h : a = true ↔ b = true) : a = b := by
  cases a <;> cases b <;> simp at h ⊢
theorem anyN_cong {p q : Nat → Bool} {n : Nat} (e : ∀ k, k < n → p k = q k) : anyN p n = anyN q n := bool_ext (by
  rw [anyN_iff, anyN_iff]
  exact ⟨fun ⟨k, k1, k2⟩ => ⟨k, k1, (e k k1).symm.trans k2⟩, fun ⟨k, k1, k2⟩ => ⟨k, k1, (e k k1).trans k2⟩⟩)
theorem bI01 (b : Bool) : bI b = 0 ∨ bI b = 1 := by cases b <;> simp [bI]
/-- a row of truth values -/
def isBo (h : AH) (b : Nat) (f : Nat → Bool) (n : Nat) : Prop := ∀ k : Nat, k < n → gi h b k = bI (f k)
theorem isBo.cong {h : AH} {b n : Nat} {f g : Nat → Bool} (s : isBo h b f n) (e : ∀ k, k < n → f k = g k) : isBo h b g n := fun k hk => by rw [s k hk, e k hk]
theorem isBo.eq {S : Nat → Int → Prop} {h H : AH} {b n : Nat} {f : Nat → Bool} (s : isBo h b f n) (e : eqG S h H) (hs : ∀ j, ¬ S b j) : isBo H b f n := fun k hk => (e.2.2.2.2 _ _ (hs k)).trans (s k hk)
/-- what a short step gives from a set -/
def stS (T : Tr) (f : Nat → Bool) (ax x : Int) (n u : Nat) : Bool := anyN (fun j => f j && alS T ax j u) n && psS T x u
def inJ (T : Tr) (G : Nat → Bool) (L : List Nat) (x : Int) (i u : Nat) : Bool := G u || ((L.take i).contains u && psS T x u)
theorem inJ_0 (T : Tr) (G : Nat → Bool) (L : List Nat) (x : Int) (u : Nat) : inJ T G L x 0 u = G u := by simp [inJ]
theorem inJ_s {T : Tr} {G : Nat → Bool} {L : List Nat} {x : Int} {i y : Nat} (h : L[i]? = some y) (u : Nat) : inJ T G L x (i + 1) u = (inJ T G L x i u || (decide (u = y) && psS T x u)) := by
  have e : L.take (i + 1) = L.take i ++ [y] := by rw [List.take_add_one, h]; rfl
  unfold inJ
  rw [e]
  by_cases q : u = y
  · subst q; simp
    cases G u <;> cases psS T x u <;> simp
  · simp [q]
theorem inJ_e {T : Tr} {f : Nat → Bool} {ax x : Int} {n k u : Nat} (hf : f k = true) (hu : u < tn T) : inJ T (stS T f ax x k) (lsA T ax k) x (lsA T ax k).length u = stS T f ax x (k + 1) u := by
  unfold inJ stS
  rw [List.take_length]
  have e : (lsA T ax k).contains u = alS T ax k u := bool_ext (by
    rw [List.contains_iff_mem]
    unfold lsA
    rw [orL_mem]
    exact ⟨fun z => z.2, fun z => ⟨hu, z⟩⟩)
  rw [e]
  show _ = ((anyN (fun j => f j && alS T ax j u) k || (f k && alS T ax k u)) && psS T x u)
  rw [hf]
  cases anyN (fun j => f j && alS T ax j u) k <;> cases psS T x u <;> cases alS T ax k u <;> rfl
theorem stS_f {T : Tr} {f : Nat → Bool} {ax x : Int} {k u : Nat} (hf : f k = false) : stS T f ax x (k + 1) u = stS T f ax x k u := by
  unfold stS
  show ((anyN (fun j => f j && alS T ax j u) k || (f k && alS T ax k u)) && psS T x u) = _
  rw [hf]
  simp
def SXt (a : Nat) : Nat → Int → Prop := fun b j => SI a b j ∨ b = a + 10 ∨ b = a + 11
theorem SXt_1 {a : Nat} : ∀ j, ¬ SXt a (a + 1) j := fun j => by unfold SXt SI; omega
theorem shM.l9 {h : AH} {a : Nat} (g : shM h a) : gr h a 8 = some (a + 5) ∧ kd h (a + 5) = some (.inr (1, 40)) := g.2.2.2.2.2.1
theorem shM.f9 {h : AH} {a : Nat} (g : shM h a) : gr h a 16 = some (a + 10) ∧ kd h (a + 10) = some (.inr (3, 40)) := g.2.2.2.2.2.2.2.2.2.2.1
theorem shM.t9 {h : AH} {a : Nat} (g : shM h a) : gr h a 17 = some (a + 11) ∧ kd h (a + 11) = some (.inr (3, 40)) := g.2.2.2.2.2.2.2.2.2.2.2.1
theorem shM.n9 {h : AH} {a : Nat} (g : shM h a) : gr h a 19 = some (a + 12) ∧ kd h (a + 12) = some (.inr (1, 40)) := g.2.2.2.2.2.2.2.2.2.2.2.2.1
theorem shM.a9 {h : AH} {a : Nat} (g : shM h a) : gr h a 20 = some (a + 13) ∧ kd h (a + 13) = some (.inr (3, 40)) := g.2.2.2.2.2.2.2.2.2.2.2.2.2.1
theorem shM.b9 {h : AH} {a : Nat} (g : shM h a) : gr h a 21 = some (a + 14) ∧ kd h (a + 14) = some (.inr (3, 40)) := g.2.2.2.2.2.2.2.2.2.2.2.2.2.2.1
theorem shM.i9 {h : AH} {a : Nat} (g : shM h a) : gr h a 22 = some (a + 15) ∧ kd h (a + 15) = some (.inr (3, 40)) := g.2.2.2.2.2.2.2.2.2.2.2.2.2.2.2.1
theorem shM.s9 {h : AH} {a : Nat} (g : shM h a) : gr h a 23 = some (a + 16) ∧ kd h (a + 16) = some (.inr (3, 1600)) := g.2.2.2.2.2.2.2.2.2.2.2.2.2.2.2.2.1
theorem shM.u9 {h : AH} {a : Nat} (g : shM h a) : gr h a 24 = some (a + 17) ∧ kd h (a + 17) = some (.inr (1, 10)) := g.2.2.2.2.2.2.2.2.2.2.2.2.2.2.2.2.2
theorem m_passes {γ : GG} {h : AH} {a v : Nat} {T : Tr} {x : Int} (hM : shM h a) (hT : gTr (gi h (a + 1)) 0 T) (ho : okTr T) (hv : v < tn T) (hx : 0 ≤ x ∧ x ≤ 8) : Call γ mX12_passes 1 0 0 [vr (some a), vi (v : Int), vi x] h (rV (vi (bI (psS T x v))) h) := by
  obtain ⟨hka, -, -⟩ := hM.q
  have n40 := ho.o.2.1
  have KN := m_nameOf (γ := γ) (h := h) (n := (v : Int)) hM (by omega)
  rw [(gTr_c hT hv).1] at KN
  have rn := ho.o.2.2.1 v hv
  by_cases q1 : x = 8
  · rw [show psS T x v = true by unfold psS; rw [decide_eq_true hv, decide_eq_true q1]; rfl]
    refine Call.of (ls := [(0, vr (some a)), (1, vi (v : Int)), (2, vi x)]) vX12_passes.1 (Nat.le_of_ble_eq_true rfl) rfl ?_
    refine aw_iload_n dX12_passes_0 rfl ?_
    refine aw_bipush dX12_passes_1 rfl ?_
    refine aw_ic_eq (tgt := 15) dX12_passes_3 rfl (by omega) (by omega) (fun c3 => ?_) (fun c3 => ?_)
    · refine aw_iconst dX12_passes_15 ?_
      refine aw_goto (tgt := 20) dX12_passes_16 rfl ?_
      exact aw_zreturn dX12_passes_20 rfl (by omega) (Or.inl rfl) ⟨rfl, rfl⟩
    · exact absurd c3 (by omega)
  · by_cases q2 : tnm T v = x
    · rw [show psS T x v = true by unfold psS; rw [decide_eq_true hv, decide_eq_true q2]; simp]
      refine Call.of (ls := [(0, vr (some a)), (1, vi (v : Int)), (2, vi x)]) vX12_passes.1 (Nat.le_of_ble_eq_true rfl) rfl ?_
      refine aw_iload_n dX12_passes_0 rfl ?_
      refine aw_bipush dX12_passes_1 rfl ?_
      refine aw_ic_eq (tgt := 15) dX12_passes_3 rfl (by omega) (by omega) (fun c3 => ?_) (fun c3 => ?_)
      · exact absurd c3 (by omega)
      · refine aw_aload_n dX12_passes_6 rfl ?_
        refine aw_iload_n dX12_passes_7 rfl ?_
        refine aw_invV_r dX12_passes_8 vX12_nameOf kX12_105 rfl (KN) ⟨_, (by assumption), _, _, rfl⟩ rfl rfl (by decide) (by decide) (by decide) (Nat.le_of_ble_eq_true rfl) ?_
        refine aw_iload_n dX12_passes_11 rfl ?_
        refine aw_ic_ne (tgt := 19) dX12_passes_12 rfl (by omega) (by omega) (fun c12 => ?_) (fun c12 => ?_)
        · exact absurd c12 (by omega)
        · refine aw_iconst dX12_passes_15 ?_
          refine aw_goto (tgt := 20) dX12_passes_16 rfl ?_
          exact aw_zreturn dX12_passes_20 rfl (by omega) (Or.inl rfl) ⟨rfl, rfl⟩
    · rw [show psS T x v = false by unfold psS; rw [decide_eq_false q1, decide_eq_false q2]; simp]
      refine Call.of (ls := [(0, vr (some a)), (1, vi (v : Int)), (2, vi x)]) vX12_passes.1 (Nat.le_of_ble_eq_true rfl) rfl ?_
      refine aw_iload_n dX12_passes_0 rfl ?_
      refine aw_bipush dX12_passes_1 rfl ?_
      refine aw_ic_eq (tgt := 15) dX12_passes_3 rfl (by omega) (by omega) (fun c3 => ?_) (fun c3 => ?_)
      · exact absurd c3 (by omega)
      · refine aw_aload_n dX12_passes_6 rfl ?_
        refine aw_iload_n dX12_passes_7 rfl ?_
        refine aw_invV_r dX12_passes_8 vX12_nameOf kX12_105 rfl (KN) ⟨_, (by assumption), _, _, rfl⟩ rfl rfl (by decide) (by decide) (by decide) (Nat.le_of_ble_eq_true rfl) ?_
        refine aw_iload_n dX12_passes_11 rfl ?_
        refine aw_ic_ne (tgt := 19) dX12_passes_12 rfl (by omega) (by omega) (fun c12 => ?_) (fun c12 => ?_)
        · refine aw_iconst dX12_passes_19 ?_
          exact aw_zreturn dX12_passes_20 rfl (by omega) (Or.inl rfl) ⟨rfl, rfl⟩
        · exact absurd c12 (by omega)
theorem l_gs3 {γ : GG} {a ax : Nat} {x : Int} {T : Tr} {f : Nat → Bool} {h : AH} (hM : shM h a) (hT : gTr (gi h (a + 1)) 0 T) (ho : okTr T) : ∀ (m k : Nat) (H : AH) (G : Nat → Bool), k + m = tn T → eqG (SXt a) h H → isBo H (a + 11) G (tn T) → isBo H (a + 10) G k → AW γ mX12_goesShort 5 0 0 128 [(3, vi (k : Int)), (2, vi (bI (anyN G k))), (0, vr (some a)), (1, vi (10 * (ax : Int) + x))] [] H (rE (vi (bI (anyN G (tn T)))) (fun h' => isBo h' (a + 10) G (tn T) ∧ eqG (SXt a) h h')) := by
  have n40 := ho.o.2.1
  intro m
  induction m with
  | zero =>
    intro k H G hk hE hB hC
    obtain rfl : k = tn T := by omega
    have bT : bI true = 1 := rfl
    have bF : bI false = 0 := rfl
    have hM1 := hE.sh hM
    have hT1 := tr_k hT hE SXt_1
    obtain ⟨hka, -, -⟩ := hM1.q
    obtain ⟨rm, km⟩ := hM1.m
    obtain ⟨rf, kf⟩ := hM1.f9
    obtain ⟨rt, kt⟩ := hM1.t9
    have g0 : gi H (a + 1) 0 = (tn T : Int) := hT1.1
    refine aw_iload_n dX12_goesShort_128 rfl ?_
    refine aw_aload_n dX12_goesShort_129 rfl ?_
    refine aw_getr' (j := 0) dX12_goesShort_130 fX12_7 rfl (by assumption) rfl (by assumption) ?_
    refine aw_iconst dX12_goesShort_133 ?_
    refine aw_iald' dX12_goesShort_134 (by assumption) (by omega) (by first | decide | omega) g0 ?_
    refine aw_ic_ge (tgt := 175) dX12_goesShort_135 rfl (by omega) (by omega) (fun c135 => ?_) (fun c135 => ?_)
    · refine aw_iload_n dX12_goesShort_175 rfl ?_
      exact aw_zreturn dX12_goesShort_176 rfl (bI01 _) (Or.inl rfl) ⟨rfl, hC, hE⟩
    · exact absurd c135 (by omega)
  | succ m ih =>
    intro k H G hk hE hB hC
    have bT : bI true = 1 := rfl
    have bF : bI false = 0 := rfl
    have hM1 := hE.sh hM
    have hT1 := tr_k hT hE SXt_1
    obtain ⟨hka, -, -⟩ := hM1.q
    obtain ⟨rm, km⟩ := hM1.m
    obtain ⟨rf, kf⟩ := hM1.f9
    obtain ⟨rt, kt⟩ := hM1.t9
    have g0 : gi H (a + 1) 0 = (tn T : Int) := hT1.1
    have gb := hB k (by omega)
    have st : eqG (SXt a) h (si H (a + 10) (k : Int) (bI (G k))) := hE.tr (eqG.si (Or.inr (Or.inl rfl)))
    have hB2 : isBo (si H (a + 10) (k : Int) (bI (G k))) (a + 11) G (tn T) := fun j hj => (gi_ne (Or.inl (by omega))).trans (hB j hj)
    have hC2 : isBo (si H (a + 10) (k : Int) (bI (G k))) (a + 10) G (k + 1) := fun j hj => by
      by_cases z : j = k
      · subst z; exact gi_at rfl rfl
      · exact (gi_ne (Or.inr (by omega))).trans (hC j (by omega))
    have b1 : gi (si H (a + 10) (k : Int) (bI (G k))) (a + 11) k = bI (G k) := hB2 k (by omega)
    have I := ih (k + 1) _ G (by omega) st hB2 hC2
    have e : anyN G (k + 1) = (anyN G k || G k) := rfl
    cases q1 : anyN G k with
    | true =>
      rw [e, q1] at I
      refine aw_iload_n dX12_goesShort_128 rfl ?_
      refine aw_aload_n dX12_goesShort_129 rfl ?_
      refine aw_getr' (j := 0) dX12_goesShort_130 fX12_7 rfl (by assumption) rfl (by assumption) ?_
      refine aw_iconst dX12_goesShort_133 ?_
      refine aw_iald' dX12_goesShort_134 (by assumption) (by omega) (by first | decide | omega) g0 ?_
      refine aw_ic_ge (tgt := 175) dX12_goesShort_135 rfl (by omega) (by omega) (fun c135 => ?_) (fun c135 => ?_)
      · exact absurd c135 (by omega)
      · refine aw_aload_n dX12_goesShort_138 rfl ?_
        refine aw_getr' (j := 16) dX12_goesShort_139 fX12_37 rfl (by assumption) rfl (by assumption) ?_
        refine aw_iload_n dX12_goesShort_142 rfl ?_
        refine aw_aload_n dX12_goesShort_143 rfl ?_
        refine aw_getr' (j := 17) dX12_goesShort_144 fX12_41 rfl (by assumption) rfl (by assumption) ?_
        refine aw_iload_n dX12_goesShort_147 rfl ?_
        refine aw_zald' dX12_goesShort_148 (by assumption) (by omega) (by first | decide | omega) gb ?_
        refine aw_zast dX12_goesShort_149 (by assumption) (by omega) (by first | decide | omega) (bI01 _) ?_
        refine aw_iload_n dX12_goesShort_150 rfl ?_
        refine aw_if_ne (tgt := 163) dX12_goesShort_151 rfl (by omega) (fun c151 => ?_) (fun c151 => ?_)
        · refine aw_iconst dX12_goesShort_163 ?_
          refine aw_goto (tgt := 168) dX12_goesShort_164 rfl ?_
          refine aw_istore_n (ls1 := [(2, _), (3, _), (0, _), (1, _)]) dX12_goesShort_168 (by decide) rfl ?_
          refine aw_iinc (k9 := 1) (ls1 := [(3, _), (2, _), (0, _), (1, _)]) dX12_goesShort_169 rfl (by decide) rfl ?_
          refine aw_goto (tgt := 128) dX12_goesShort_172 rfl ?_
          refine aw_sub [0, 1, 2, 3] rfl ?_
          exact I
        · exact absurd c151 (by omega)
    | false =>
      cases q2 : G k with
      | true =>
        rw [e, q1, q2] at I
        rw [q2] at gb b1
        refine aw_iload_n dX12_goesShort_128 rfl ?_
        refine aw_aload_n dX12_goesShort_129 rfl ?_
        refine aw_getr' (j := 0) dX12_goesShort_130 fX12_7 rfl (by assumption) rfl (by assumption) ?_
        refine aw_iconst dX12_goesShort_133 ?_
        refine aw_iald' dX12_goesShort_134 (by assumption) (by omega) (by first | decide | omega) g0 ?_
        refine aw_ic_ge (tgt := 175) dX12_goesShort_135 rfl (by omega) (by omega) (fun c135 => ?_) (fun c135 => ?_)
        · exact absurd c135 (by omega)
        · refine aw_aload_n dX12_goesShort_138 rfl ?_
          refine aw_getr' (j := 16) dX12_goesShort_139 fX12_37 rfl (by assumption) rfl (by assumption) ?_
          refine aw_iload_n dX12_goesShort_142 rfl ?_
          refine aw_aload_n dX12_goesShort_143 rfl ?_
          refine aw_getr' (j := 17) dX12_goesShort_144 fX12_41 rfl (by assumption) rfl (by assumption) ?_
          refine aw_iload_n dX12_goesShort_147 rfl ?_
          refine aw_zald' dX12_goesShort_148 (by assumption) (by omega) (by first | decide | omega) gb ?_
          refine aw_zast dX12_goesShort_149 (by assumption) (by omega) (by first | decide | omega) (by decide) ?_
          refine aw_iload_n dX12_goesShort_150 rfl ?_
          refine aw_if_ne (tgt := 163) dX12_goesShort_151 rfl (by omega) (fun c151 => ?_) (fun c151 => ?_)
          · exact absurd c151 (by omega)
          · refine aw_aload_n dX12_goesShort_154 rfl ?_
            refine aw_getr' (j := 17) dX12_goesShort_155 fX12_41 rfl (by assumption) rfl (by assumption) ?_
            refine aw_iload_n dX12_goesShort_158 rfl ?_
            refine aw_zald' dX12_goesShort_159 (by assumption) (by omega) (by first | decide | omega) b1 ?_
            refine aw_if_eq (tgt := 167) dX12_goesShort_160 rfl (by omega) (fun c160 => ?_) (fun c160 => ?_)
            · exact absurd c160 (by omega)
            · refine aw_iconst dX12_goesShort_163 ?_
              refine aw_goto (tgt := 168) dX12_goesShort_164 rfl ?_
              refine aw_istore_n (ls1 := [(2, _), (3, _), (0, _), (1, _)]) dX12_goesShort_168 (by decide) rfl ?_
              refine aw_iinc (k9 := 1) (ls1 := [(3, _), (2, _), (0, _), (1, _)]) dX12_goesShort_169 rfl (by decide) rfl ?_
              refine aw_goto (tgt := 128) dX12_goesShort_172 rfl ?_
              refine aw_sub [0, 1, 2, 3] rfl ?_
              exact I
      | false =>
        rw [e, q1, q2] at I
        rw [q2] at gb b1
        refine aw_iload_n dX12_goesShort_128 rfl ?_
        refine aw_aload_n dX12_goesShort_129 rfl ?_
        refine aw_getr' (j := 0) dX12_goesShort_130 fX12_7 rfl (by assumption) rfl (by assumption) ?_
        refine aw_iconst dX12_goesShort_133 ?_
        refine aw_iald' dX12_goesShort_134 (by assumption) (by omega) (by first | decide | omega) g0 ?_
        refine aw_ic_ge (tgt := 175) dX12_goesShort_135 rfl (by omega) (by omega) (fun c135 => ?_) (fun c135 => ?_)
        · exact absurd c135 (by omega)
        · refine aw_aload_n dX12_goesShort_138 rfl ?_
          refine aw_getr' (j := 16) dX12_goesShort_139 fX12_37 rfl (by assumption) rfl (by assumption) ?_
          refine aw_iload_n dX12_goesShort_142 rfl ?_
          refine aw_aload_n dX12_goesShort_143 rfl ?_
          refine aw_getr' (j := 17) dX12_goesShort_144 fX12_41 rfl (by assumption) rfl (by assumption) ?_
          refine aw_iload_n dX12_goesShort_147 rfl ?_
          refine aw_zald' dX12_goesShort_148 (by assumption) (by omega) (by first | decide | omega) gb ?_
          refine aw_zast dX12_goesShort_149 (by assumption) (by omega) (by first | decide | omega) (by decide) ?_
          refine aw_iload_n dX12_goesShort_150 rfl ?_
          refine aw_if_ne (tgt := 163) dX12_goesShort_151 rfl (by omega) (fun c151 => ?_) (fun c151 => ?_)
          · exact absurd c151 (by omega)
          · refine aw_aload_n dX12_goesShort_154 rfl ?_
            refine aw_getr' (j := 17) dX12_goesShort_155 fX12_41 rfl (by assumption) rfl (by assumption) ?_
            refine aw_iload_n dX12_goesShort_158 rfl ?_
            refine aw_zald' dX12_goesShort_159 (by assumption) (by omega) (by first | decide | omega) b1 ?_
            refine aw_if_eq (tgt := 167) dX12_goesShort_160 rfl (by omega) (fun c160 => ?_) (fun c160 => ?_)
            · refine aw_iconst dX12_goesShort_167 ?_
              refine aw_istore_n (ls1 := [(2, _), (3, _), (0, _), (1, _)]) dX12_goesShort_168 (by decide) rfl ?_
              refine aw_iinc (k9 := 1) (ls1 := [(3, _), (2, _), (0, _), (1, _)]) dX12_goesShort_169 rfl (by decide) rfl ?_
              refine aw_goto (tgt := 128) dX12_goesShort_172 rfl ?_
              refine aw_sub [0, 1, 2, 3] rfl ?_
              exact I
            · exact absurd c160 (by omega)
theorem i_gs2 {γ : GG} {a ax : Nat} {x : Int} {T : Tr} {f : Nat → Bool} {h : AH} {Q : AR → AH → Prop} (hM : shM h a) (hT : gTr (gi h (a + 1)) 0 T) (ho : okTr T) (hx : 0 ≤ x ∧ x ≤ 8) (hax : ax ≤ 9) {k : Nat} (hk : k < tn T) (G : Nat → Bool) (kk : ∀ H, eqG (SXt a) h H → isBo H (a + 10) f (tn T) → isBo H (a + 11) (inJ T G (lsA T (ax : Int) k) x (lsA T (ax : Int) k).length) (tn T) → AW γ mX12_goesShort 5 0 0 118 [(2, vi (k : Int)), (0, vr (some a)), (1, vi (10 * (ax : Int) + x))] [] H Q) : ∀ (m i : Nat) (H : AH), i + m = (lsA T (ax : Int) k).length → eqG (SXt a) h H → isBo H (a + 10) f (tn T) → isLi H a (lsA T (ax : Int) k) → isBo H (a + 11) (inJ T G (lsA T (ax : Int) k) x i) (tn T) → AW γ mX12_goesShort 5 0 0 57 [(3, vi (i : Int)), (2, vi (k : Int)), (0, vr (some a)), (1, vi (10 * (ax : Int) + x))] [] H Q := by
  have n40 := ho.o.2.1
  have ln : (lsA T (ax : Int) k).length ≤ tn T := by have := orL_len (rv6 (ax : Int)) (alS T (ax : Int) k) (tn T); have := fb_ct_le (alS T (ax : Int) k) (tn T); unfold lsA; omega
  intro m
  induction m with
  | zero =>
    intro i H hi hE hF hL hB
    obtain rfl : i = (lsA T (ax : Int) k).length := by omega
    have bT : bI true = 1 := rfl
    have bF : bI false = 0 := rfl
    have hM1 := hE.sh hM
    have hT1 := tr_k hT hE SXt_1
    obtain ⟨hka, -, -⟩ := hM1.q
    obtain ⟨rm, km⟩ := hM1.m
    obtain ⟨rf, kf⟩ := hM1.f9
    obtain ⟨rt, kt⟩ := hM1.t9
    have g0 : gi H (a + 1) 0 = (tn T : Int) := hT1.1
    have g7 := hL.1
    have K := kk H hE hF hB
    refine aw_iload_n dX12_goesShort_57 rfl ?_
    refine aw_aload_n dX12_goesShort_58 rfl ?_
    refine aw_geti' (j := 7) dX12_goesShort_59 fX12_114 rfl (by assumption) rfl g7 ?_
    refine aw_ic_ge (tgt := 118) dX12_goesShort_62 rfl (by omega) (by omega) (fun c62 => ?_) (fun c62 => ?_)
    · refine aw_sub [1, 2, 3] rfl ?_
      exact K
    · exact absurd c62 (by omega)
  | succ m ih =>
    intro i H hi hE hF hL hB
    have bT : bI true = 1 := rfl
    have bF : bI false = 0 := rfl
    have hM1 := hE.sh hM
    have hT1 := tr_k hT hE SXt_1
    obtain ⟨hka, -, -⟩ := hM1.q
    obtain ⟨rm, km⟩ := hM1.m
    obtain ⟨rf, kf⟩ := hM1.f9
    obtain ⟨rt, kt⟩ := hM1.t9
    have g0 : gi H (a + 1) 0 = (tn T : Int) := hT1.1
    obtain ⟨rl, kl⟩ := hM1.l9
    have g7 := hL.1
    obtain ⟨y, hy⟩ : ∃ y, (lsA T (ax : Int) k)[i]? = some y := ⟨_, List.getElem?_eq_getElem (by omega)⟩
    have gy := hL.2 i y hy
    have hyn : y < tn T := (orL_mem.mp (List.mem_of_getElem? hy)).1
    have KP := m_passes (γ := γ) (v := y) hM1 hT1 ho hyn hx
    have gb := hB y hyn
    have em : (10 * (ax : Int) + x) % 10 = x := by omega
    have I := ih (i + 1) (si H (a + 11) (y : Int) (bI (inJ T G (lsA T (ax : Int) k) x (i + 1) y))) (by omega) (hE.tr (eqG.si (Or.inr (Or.inr rfl)))) (fun j hj => (gi_ne (Or.inl (by omega))).trans (hF j hj)) ⟨(gi_ne (Or.inl (by omega))).trans hL.1, fun j u hu => (gi_ne (Or.inl (by omega))).trans (hL.2 j u hu)⟩ (fun j hj => by
      by_cases z : j = y
      · subst z; exact gi_at rfl rfl
      · rw [inJ_s hy j, decide_eq_false z, Bool.false_and, Bool.or_false]
        exact (gi_ne (Or.inr (by omega))).trans (hB j hj))
    have e : inJ T G (lsA T (ax : Int) k) x (i + 1) y = (inJ T G (lsA T (ax : Int) k) x i y || psS T x y) := by rw [inJ_s hy, decide_eq_true rfl, Bool.true_and]
    rw [e] at I
    cases q1 : inJ T G (lsA T (ax : Int) k) x i y with
    | true =>
      rw [q1] at I gb
      refine aw_iload_n dX12_goesShort_57 rfl ?_
      refine aw_aload_n dX12_goesShort_58 rfl ?_
      refine aw_geti' (j := 7) dX12_goesShort_59 fX12_114 rfl (by assumption) rfl g7 ?_
      refine aw_ic_ge (tgt := 118) dX12_goesShort_62 rfl (by omega) (by omega) (fun c62 => ?_) (fun c62 => ?_)
      · exact absurd c62 (by omega)
      · refine aw_aload_n dX12_goesShort_65 rfl ?_
        refine aw_getr' (j := 17) dX12_goesShort_66 fX12_41 rfl (by assumption) rfl (by assumption) ?_
        refine aw_aload_n dX12_goesShort_69 rfl ?_
        refine aw_getr' (j := 8) dX12_goesShort_70 fX12_22 rfl (by assumption) rfl (by assumption) ?_
        refine aw_iload_n dX12_goesShort_73 rfl ?_
        refine aw_iald' dX12_goesShort_74 (by assumption) (by omega) (by first | decide | omega) gy ?_
        refine aw_aload_n dX12_goesShort_75 rfl ?_
        refine aw_getr' (j := 17) dX12_goesShort_76 fX12_41 rfl (by assumption) rfl (by assumption) ?_
        refine aw_aload_n dX12_goesShort_79 rfl ?_
        refine aw_getr' (j := 8) dX12_goesShort_80 fX12_22 rfl (by assumption) rfl (by assumption) ?_
        refine aw_iload_n dX12_goesShort_83 rfl ?_
        refine aw_iald' dX12_goesShort_84 (by assumption) (by omega) (by first | decide | omega) gy ?_
        refine aw_zald' dX12_goesShort_85 (by assumption) (by omega) (by first | decide | omega) gb ?_
        refine aw_if_ne (tgt := 106) dX12_goesShort_86 rfl (by omega) (fun c86 => ?_) (fun c86 => ?_)
        · refine aw_iconst dX12_goesShort_106 ?_
          refine aw_goto (tgt := 111) dX12_goesShort_107 rfl ?_
          refine aw_zast dX12_goesShort_111 (by assumption) (by omega) (by first | decide | omega) (Or.inr rfl) ?_
          refine aw_iinc (k9 := 0) (ls1 := [(3, _), (2, _), (0, _), (1, _)]) dX12_goesShort_112 rfl (by decide) rfl ?_
          refine aw_goto (tgt := 57) dX12_goesShort_115 rfl ?_
          refine aw_sub [0, 1, 2, 3] rfl ?_
          exact I
        · exact absurd c86 (by omega)
    | false =>
      cases q2 : psS T x y with
      | true =>
        rw [q1] at gb
        rw [q1, q2] at I
        rw [q2] at KP
        refine aw_iload_n dX12_goesShort_57 rfl ?_
        refine aw_aload_n dX12_goesShort_58 rfl ?_
        refine aw_geti' (j := 7) dX12_goesShort_59 fX12_114 rfl (by assumption) rfl g7 ?_
        refine aw_ic_ge (tgt := 118) dX12_goesShort_62 rfl (by omega) (by omega) (fun c62 => ?_) (fun c62 => ?_)
        · exact absurd c62 (by omega)
        · refine aw_aload_n dX12_goesShort_65 rfl ?_
          refine aw_getr' (j := 17) dX12_goesShort_66 fX12_41 rfl (by assumption) rfl (by assumption) ?_
          refine aw_aload_n dX12_goesShort_69 rfl ?_
          refine aw_getr' (j := 8) dX12_goesShort_70 fX12_22 rfl (by assumption) rfl (by assumption) ?_
          refine aw_iload_n dX12_goesShort_73 rfl ?_
          refine aw_iald' dX12_goesShort_74 (by assumption) (by omega) (by first | decide | omega) gy ?_
          refine aw_aload_n dX12_goesShort_75 rfl ?_
          refine aw_getr' (j := 17) dX12_goesShort_76 fX12_41 rfl (by assumption) rfl (by assumption) ?_
          refine aw_aload_n dX12_goesShort_79 rfl ?_
          refine aw_getr' (j := 8) dX12_goesShort_80 fX12_22 rfl (by assumption) rfl (by assumption) ?_
          refine aw_iload_n dX12_goesShort_83 rfl ?_
          refine aw_iald' dX12_goesShort_84 (by assumption) (by omega) (by first | decide | omega) gy ?_
          refine aw_zald' dX12_goesShort_85 (by assumption) (by omega) (by first | decide | omega) gb ?_
          refine aw_if_ne (tgt := 106) dX12_goesShort_86 rfl (by omega) (fun c86 => ?_) (fun c86 => ?_)
          · exact absurd c86 (by omega)
          · refine aw_aload_n dX12_goesShort_89 rfl ?_
            refine aw_aload_n dX12_goesShort_90 rfl ?_
            refine aw_getr' (j := 8) dX12_goesShort_91 fX12_22 rfl (by assumption) rfl (by assumption) ?_
            refine aw_iload_n dX12_goesShort_94 rfl ?_
            refine aw_iald' dX12_goesShort_95 (by assumption) (by omega) (by first | decide | omega) gy ?_
            refine aw_iload_n dX12_goesShort_96 rfl ?_
            refine aw_bipush dX12_goesShort_97 rfl ?_
            refine aw_irem dX12_goesShort_99 (by omega) (by omega) ?_
            rw [em]
            refine aw_invV_r dX12_goesShort_100 vX12_passes kX12_244 rfl (KP) ⟨_, (by assumption), _, _, rfl⟩ rfl rfl (by decide) (by decide) (by decide) (Nat.le_of_ble_eq_true rfl) ?_
            refine aw_if_eq (tgt := 110) dX12_goesShort_103 rfl (by omega) (fun c103 => ?_) (fun c103 => ?_)
            · exact absurd c103 (by omega)
            · refine aw_iconst dX12_goesShort_106 ?_
              refine aw_goto (tgt := 111) dX12_goesShort_107 rfl ?_
              refine aw_zast dX12_goesShort_111 (by assumption) (by omega) (by first | decide | omega) (Or.inr rfl) ?_
              refine aw_iinc (k9 := 0) (ls1 := [(3, _), (2, _), (0, _), (1, _)]) dX12_goesShort_112 rfl (by decide) rfl ?_
              refine aw_goto (tgt := 57) dX12_goesShort_115 rfl ?_
              refine aw_sub [0, 1, 2, 3] rfl ?_
              exact I
      | false =>
        rw [q1] at gb
        rw [q1, q2] at I
        rw [q2] at KP
        refine aw_iload_n dX12_goesShort_57 rfl ?_
        refine aw_aload_n dX12_goesShort_58 rfl ?_
        refine aw_geti' (j := 7) dX12_goesShort_59 fX12_114 rfl (by assumption) rfl g7 ?_
        refine aw_ic_ge (tgt := 118) dX12_goesShort_62 rfl (by omega) (by omega) (fun c62 => ?_) (fun c62 => ?_)
        · exact absurd c62 (by omega)
        · refine aw_aload_n dX12_goesShort_65 rfl ?_
          refine aw_getr' (j := 17) dX12_goesShort_66 fX12_41 rfl (by assumption) rfl (by assumption) ?_
          refine aw_aload_n dX12_goesShort_69 rfl ?_
          refine aw_getr' (j := 8) dX12_goesShort_70 fX12_22 rfl (by assumption) rfl (by assumption) ?_
          refine aw_iload_n dX12_goesShort_73 rfl ?_
          refine aw_iald' dX12_goesShort_74 (by assumption) (by omega) (by first | decide | omega) gy ?_
          refine aw_aload_n dX12_goesShort_75 rfl ?_
          refine aw_getr' (j := 17) dX12_goesShort_76 fX12_41 rfl (by assumption) rfl (by assumption) ?_
          refine aw_aload_n dX12_goesShort_79 rfl ?_
          refine aw_getr' (j := 8) dX12_goesShort_80 fX12_22 rfl (by assumption) rfl (by assumption) ?_
          refine aw_iload_n dX12_goesShort_83 rfl ?_
          refine aw_iald' dX12_goesShort_84 (by assumption) (by omega) (by first | decide | omega) gy ?_
          refine aw_zald' dX12_goesShort_85 (by assumption) (by omega) (by first | decide | omega) gb ?_
          refine aw_if_ne (tgt := 106) dX12_goesShort_86 rfl (by omega) (fun c86 => ?_) (fun c86 => ?_)
          · exact absurd c86 (by omega)
          · refine aw_aload_n dX12_goesShort_89 rfl ?_
            refine aw_aload_n dX12_goesShort_90 rfl ?_
            refine aw_getr' (j := 8) dX12_goesShort_91 fX12_22 rfl (by assumption) rfl (by assumption) ?_
            refine aw_iload_n dX12_goesShort_94 rfl ?_
            refine aw_iald' dX12_goesShort_95 (by assumption) (by omega) (by first | decide | omega) gy ?_
            refine aw_iload_n dX12_goesShort_96 rfl ?_
            refine aw_bipush dX12_goesShort_97 rfl ?_
            refine aw_irem dX12_goesShort_99 (by omega) (by omega) ?_
            rw [em]
            refine aw_invV_r dX12_goesShort_100 vX12_passes kX12_244 rfl (KP) ⟨_, (by assumption), _, _, rfl⟩ rfl rfl (by decide) (by decide) (by decide) (Nat.le_of_ble_eq_true rfl) ?_
            refine aw_if_eq (tgt := 110) dX12_goesShort_103 rfl (by omega) (fun c103 => ?_) (fun c103 => ?_)
            · refine aw_iconst dX12_goesShort_110 ?_
              refine aw_zast dX12_goesShort_111 (by assumption) (by omega) (by first | decide | omega) (Or.inl rfl) ?_
              refine aw_iinc (k9 := 0) (ls1 := [(3, _), (2, _), (0, _), (1, _)]) dX12_goesShort_112 rfl (by decide) rfl ?_
              refine aw_goto (tgt := 57) dX12_goesShort_115 rfl ?_
              refine aw_sub [0, 1, 2, 3] rfl ?_
              exact I
            · exact absurd c103 (by omega)
theorem aw_gs118 {γ : GG} {a k : Nat} {z : Int} {H : AH} {Q : AR → AH → Prop} (I : AW γ mX12_goesShort 5 0 0 27 [(2, vi ((k + 1 : Nat) : Int)), (0, vr (some a)), (1, vi z)] [] H Q) : AW γ mX12_goesShort 5 0 0 118 [(2, vi (k : Int)), (0, vr (some a)), (1, vi z)] [] H Q := by
  refine aw_iinc (k9 := 0) (ls1 := [(2, _), (0, _), (1, _)]) dX12_goesShort_118 rfl (by decide) rfl ?_
  refine aw_goto (tgt := 27) dX12_goesShort_121 rfl ?_
  refine aw_sub [0, 1, 2] rfl ?_
  exact I
theorem l_gs2 {γ : GG} {a ax : Nat} {x : Int} {T : Tr} {f : Nat → Bool} {h : AH} (hM : shM h a) (hT : gTr (gi h (a + 1)) 0 T) (ho : okTr T) (hx : 0 ≤ x ∧ x ≤ 8) (hax : ax ≤ 9) : ∀ (m k : Nat) (H : AH), k + m = tn T → eqG (SXt a) h H → isBo H (a + 10) f (tn T) → isBo H (a + 11) (stS T f ax x k) (tn T) → AW γ mX12_goesShort 5 0 0 27 [(2, vi (k : Int)), (0, vr (some a)), (1, vi (10 * (ax : Int) + x))] [] H (rE (vi (bI (anyN (stS T f ax x (tn T)) (tn T)))) (fun h' => isBo h' (a + 10) (stS T f ax x (tn T)) (tn T) ∧ eqG (SXt a) h h')) := by
  have n40 := ho.o.2.1
  intro m
  induction m with
  | zero =>
    intro k H hk hE hF hB
    obtain rfl : k = tn T := by omega
    have bT : bI true = 1 := rfl
    have bF : bI false = 0 := rfl
    have hM1 := hE.sh hM
    have hT1 := tr_k hT hE SXt_1
    obtain ⟨hka, -, -⟩ := hM1.q
    obtain ⟨rm, km⟩ := hM1.m
    obtain ⟨rf, kf⟩ := hM1.f9
    obtain ⟨rt, kt⟩ := hM1.t9
    have g0 : gi H (a + 1) 0 = (tn T : Int) := hT1.1
    have L := l_gs3 (γ := γ) (ax := ax) (x := x) (f := f) hM hT ho (tn T) 0 H (stS T f ax x (tn T)) (by omega) hE hB (fun j hj => absurd hj (by omega))
    refine aw_iload_n dX12_goesShort_27 rfl ?_
    refine aw_aload_n dX12_goesShort_28 rfl ?_
    refine aw_getr' (j := 0) dX12_goesShort_29 fX12_7 rfl (by assumption) rfl (by assumption) ?_
    refine aw_iconst dX12_goesShort_32 ?_
    refine aw_iald' dX12_goesShort_33 (by assumption) (by omega) (by first | decide | omega) g0 ?_
    refine aw_ic_ge (tgt := 124) dX12_goesShort_34 rfl (by omega) (by omega) (fun c34 => ?_) (fun c34 => ?_)
    · refine aw_iconst dX12_goesShort_124 ?_
      refine aw_istore_n (ls1 := [(2, _), (0, _), (1, _)]) dX12_goesShort_125 (by decide) rfl ?_
      refine aw_iconst dX12_goesShort_126 ?_
      refine aw_istore_n (ls1 := [(3, _), (2, _), (0, _), (1, _)]) dX12_goesShort_127 (by decide) rfl ?_
      refine aw_sub [0, 1, 2, 3] rfl ?_
      exact L
    · exact absurd c34 (by omega)
  | succ m ih =>
    intro k H hk hE hF hB
    have hkn : k < tn T := by omega
    have bT : bI true = 1 := rfl
    have bF : bI false = 0 := rfl
    have hM1 := hE.sh hM
    have hT1 := tr_k hT hE SXt_1
    obtain ⟨hka, -, -⟩ := hM1.q
    obtain ⟨rm, km⟩ := hM1.m
    obtain ⟨rf, kf⟩ := hM1.f9
    obtain ⟨rt, kt⟩ := hM1.t9
    have g0 : gi H (a + 1) 0 = (tn T : Int) := hT1.1
    have gf := hF k hkn
    have ed : (10 * (ax : Int) + x) / 10 = (ax : Int) := by omega
    cases q : f k with
    | true =>
      rw [q] at gf
      have KL := m_listAxis (γ := γ) (v := k) (ax := ax) hM1 hT1 ho hkn hax
      have I := fun H1 (L1 : isLi H1 a (lsA T (ax : Int) k)) (E1 : eqG (SI a) H H1) => i_gs2 (γ := γ) (f := f) hM hT ho hx hax hkn (stS T f ax x k) (fun H2 E2 F2 B2 => by
        have I2 := ih (k + 1) H2 (by omega) E2 F2 (B2.cong (fun u hu => inJ_e (n := 0) q hu))
        exact aw_gs118 I2) (lsA T (ax : Int) k).length 0 H1 (by omega) (hE.tr (E1.mono (fun b j z => Or.inl z))) (hF.eq E1 (fun j => by unfold SI; omega)) L1 ((hB.eq E1 (fun j => by unfold SI; omega)).cong (fun u hu => (inJ_0 _ _ _ _ _).symm))
      refine aw_iload_n dX12_goesShort_27 rfl ?_
      refine aw_aload_n dX12_goesShort_28 rfl ?_
      refine aw_getr' (j := 0) dX12_goesShort_29 fX12_7 rfl (by assumption) rfl (by assumption) ?_
      refine aw_iconst dX12_goesShort_32 ?_
      refine aw_iald' dX12_goesShort_33 (by assumption) (by omega) (by first | decide | omega) g0 ?_
      refine aw_ic_ge (tgt := 124) dX12_goesShort_34 rfl (by omega) (by omega) (fun c34 => ?_) (fun c34 => ?_)
      · exact absurd c34 (by omega)
      · refine aw_aload_n dX12_goesShort_37 rfl ?_
        refine aw_getr' (j := 16) dX12_goesShort_38 fX12_37 rfl (by assumption) rfl (by assumption) ?_
        refine aw_iload_n dX12_goesShort_41 rfl ?_
        refine aw_zald' dX12_goesShort_42 (by assumption) (by omega) (by first | decide | omega) gf ?_
        refine aw_if_eq (tgt := 118) dX12_goesShort_43 rfl (by omega) (fun c43 => ?_) (fun c43 => ?_)
        · exact absurd c43 (by omega)
        · refine aw_aload_n dX12_goesShort_46 rfl ?_
          refine aw_iload_n dX12_goesShort_47 rfl ?_
          refine aw_iload_n dX12_goesShort_48 rfl ?_
          refine aw_bipush dX12_goesShort_49 rfl ?_
          refine aw_idiv dX12_goesShort_51 (by omega) (by omega) ?_
          rw [ed]
          refine aw_invV_f dX12_goesShort_52 vX12_listAxis kX12_111 rfl (KL) ⟨_, (by assumption), _, _, rfl⟩ rfl rfl (by decide) (by decide) (by decide) (Nat.le_of_ble_eq_true rfl) (fun H1 hP9 => ?_)
          obtain ⟨L1, E1⟩ := hP9
          refine aw_iconst dX12_goesShort_55 ?_
          refine aw_istore_n (ls1 := [(3, _), (2, _), (0, _), (1, _)]) dX12_goesShort_56 (by decide) rfl ?_
          refine aw_sub [0, 1, 2, 3] rfl ?_
          exact I H1 L1 E1
    | false =>
      rw [q] at gf
      have I := ih (k + 1) H (by omega) hE hF (hB.cong (fun u hu => (stS_f q).symm))
      refine aw_iload_n dX12_goesShort_27 rfl ?_
      refine aw_aload_n dX12_goesShort_28 rfl ?_
      refine aw_getr' (j := 0) dX12_goesShort_29 fX12_7 rfl (by assumption) rfl (by assumption) ?_
      refine aw_iconst dX12_goesShort_32 ?_
      refine aw_iald' dX12_goesShort_33 (by assumption) (by omega) (by first | decide | omega) g0 ?_
      refine aw_ic_ge (tgt := 124) dX12_goesShort_34 rfl (by omega) (by omega) (fun c34 => ?_) (fun c34 => ?_)
      · exact absurd c34 (by omega)
      · refine aw_aload_n dX12_goesShort_37 rfl ?_
        refine aw_getr' (j := 16) dX12_goesShort_38 fX12_37 rfl (by assumption) rfl (by assumption) ?_
        refine aw_iload_n dX12_goesShort_41 rfl ?_
        refine aw_zald' dX12_goesShort_42 (by assumption) (by omega) (by first | decide | omega) gf ?_
        refine aw_if_eq (tgt := 118) dX12_goesShort_43 rfl (by omega) (fun c43 => ?_) (fun c43 => ?_)
        · refine aw_iinc (k9 := 0) (ls1 := [(2, _), (0, _), (1, _)]) dX12_goesShort_118 rfl (by decide) rfl ?_
          refine aw_goto (tgt := 27) dX12_goesShort_121 rfl ?_
          refine aw_sub [0, 1, 2] rfl ?_
          exact I
        · exact absurd c43 (by omega)
theorem l_gs1 {γ : GG} {a ax : Nat} {x : Int} {T : Tr} {f : Nat → Bool} {h : AH} (hM : shM h a) (hT : gTr (gi h (a + 1)) 0 T) (ho : okTr T) (hx : 0 ≤ x ∧ x ≤ 8) (hax : ax ≤ 9) : ∀ (m k : Nat) (H : AH), k + m = tn T → eqG (SXt a) h H → isBo H (a + 10) f (tn T) → isBo H (a + 11) (fun _ => false) k → AW γ mX12_goesShort 5 0 0 2 [(2, vi (k : Int)), (0, vr (some a)), (1, vi (10 * (ax : Int) + x))] [] H (rE (vi (bI (anyN (stS T f ax x (tn T)) (tn T)))) (fun h' => isBo h' (a + 10) (stS T f ax x (tn T)) (tn T) ∧ eqG (SXt a) h h')) := by
  have n40 := ho.o.2.1
  intro m
  induction m with
  | zero =>
    intro k H hk hE hF hB
    obtain rfl : k = tn T := by omega
    have bT : bI true = 1 := rfl
    have bF : bI false = 0 := rfl
    have hM1 := hE.sh hM
    have hT1 := tr_k hT hE SXt_1
    obtain ⟨hka, -, -⟩ := hM1.q
    obtain ⟨rm, km⟩ := hM1.m
    obtain ⟨rf, kf⟩ := hM1.f9
    obtain ⟨rt, kt⟩ := hM1.t9
    have g0 : gi H (a + 1) 0 = (tn T : Int) := hT1.1
    have L := l_gs2 (γ := γ) (ax := ax) (x := x) (f := f) hM hT ho hx hax (tn T) 0 H (by omega) hE hF (hB.cong (fun u hu => by unfold stS; rfl))
    refine aw_iload_n dX12_goesShort_2 rfl ?_
    refine aw_aload_n dX12_goesShort_3 rfl ?_
    refine aw_getr' (j := 0) dX12_goesShort_4 fX12_7 rfl (by assumption) rfl (by assumption) ?_
    refine aw_iconst dX12_goesShort_7 ?_
    refine aw_iald' dX12_goesShort_8 (by assumption) (by omega) (by first | decide | omega) g0 ?_
    refine aw_ic_ge (tgt := 25) dX12_goesShort_9 rfl (by omega) (by omega) (fun c9 => ?_) (fun c9 => ?_)
    · refine aw_iconst dX12_goesShort_25 ?_
      refine aw_istore_n (ls1 := [(2, _), (0, _), (1, _)]) dX12_goesShort_26 (by decide) rfl ?_
      refine aw_sub [0, 1, 2] rfl ?_
      exact L
    · exact absurd c9 (by omega)
  | succ m ih =>
    intro k H hk hE hF hB
    have bT : bI true = 1 := rfl
    have bF : bI false = 0 := rfl
    have hM1 := hE.sh hM
    have hT1 := tr_k hT hE SXt_1
    obtain ⟨hka, -, -⟩ := hM1.q
    obtain ⟨rm, km⟩ := hM1.m
    obtain ⟨rf, kf⟩ := hM1.f9
    obtain ⟨rt, kt⟩ := hM1.t9
    have g0 : gi H (a + 1) 0 = (tn T : Int) := hT1.1
    have I := ih (k + 1) (si H (a + 11) (k : Int) 0) (by omega) (hE.tr (eqG.si (Or.inr (Or.inr rfl)))) (fun j hj => (gi_ne (Or.inl (by omega))).trans (hF j hj)) (fun j hj => by
      by_cases z : j = k
      · subst z; exact gi_at rfl rfl
      · exact (gi_ne (Or.inr (by omega))).trans (hB j (by omega)))
    refine aw_iload_n dX12_goesShort_2 rfl ?_
    refine aw_aload_n dX12_goesShort_3 rfl ?_
    refine aw_getr' (j := 0) dX12_goesShort_4 fX12_7 rfl (by assumption) rfl (by assumption) ?_
    refine aw_iconst dX12_goesShort_7 ?_
    refine aw_iald' dX12_goesShort_8 (by assumption) (by omega) (by first | decide | omega) g0 ?_
    refine aw_ic_ge (tgt := 25) dX12_goesShort_9 rfl (by omega) (by omega) (fun c9 => ?_) (fun c9 => ?_)
    · exact absurd c9 (by omega)
    · refine aw_aload_n dX12_goesShort_12 rfl ?_
      refine aw_getr' (j := 17) dX12_goesShort_13 fX12_41 rfl (by assumption) rfl (by assumption) ?_
      refine aw_iload_n dX12_goesShort_16 rfl ?_
      refine aw_iconst dX12_goesShort_17 ?_
      refine aw_zast dX12_goesShort_18 (by assumption) (by omega) (by first | decide | omega) (Or.inl rfl) ?_
      refine aw_iinc (k9 := 0) (ls1 := [(2, _), (0, _), (1, _)]) dX12_goesShort_19 rfl (by decide) rfl ?_
      refine aw_goto (tgt := 2) dX12_goesShort_22 rfl ?_
      refine aw_sub [0, 1, 2] rfl ?_
      exact I
theorem m_goesShort {γ : GG} {h : AH} {a ax : Nat} {x z : Int} {T : Tr} {f : Nat → Bool} (hM : shM h a) (hT : gTr (gi h (a + 1)) 0 T) (ho : okTr T) (hx : 0 ≤ x ∧ x ≤ 8) (hax : ax ≤ 9) (hz : z = 10 * (ax : Int) + x) (hF : isBo h (a + 10) f (tn T)) : Call γ mX12_goesShort 5 0 0 [vr (some a), vi z] h (rE (vi (bI (anyN (stS T f ax x (tn T)) (tn T)))) (fun h' => isBo h' (a + 10) (stS T f ax x (tn T)) (tn T) ∧ eqG (SXt a) h h')) := by
  subst hz
  have L := l_gs1 (γ := γ) (f := f) hM hT ho hx hax (tn T) 0 h (by omega) eqG.rf hF (fun j hj => absurd hj (by omega))
  refine Call.of (ls := [(0, vr (some a)), (1, vi (10 * (ax : Int) + x))]) vX12_goesShort.1 (Nat.le_of_ble_eq_true rfl) rfl ?_
  refine aw_iconst dX12_goesShort_0 ?_
  refine aw_istore_n (ls1 := [(2, _), (0, _), (1, _)]) dX12_goesShort_1 (by decide) rfl ?_
  refine aw_sub [0, 1, 2] rfl ?_
  exact L
