/-! ===== Step: rules 7 and 8 ===== -/
theorem slot_sure {ps : List TP} (ho : ∀ p ∈ ps, okP p) (k : Nat) : slotv ps k = 8276 ↔ cAt ps k = some sureC := by
  rw [slotv_so]
  constructor
  · intro z
    cases hc : cAt ps k with
    | none => rw [hc] at z; exact absurd z (by decide)
    | some c =>
      rw [hc] at z
      have := pk_inj (cAt_ok ho hc).1 (e := sureC) (by simp [okC, okT, sureC]) (by rw [pk_sure]; exact z)
      rw [this]
  · intro z; rw [z]; exact pk_sure
theorem cAt_erase (ps : List TP) (i m : Nat) : cAt (ps.eraseIdx i) m = if m / 9 < i then cAt ps m else cAt ps (m + 9) := by
  unfold cAt
  rw [List.getElem?_eraseIdx]
  by_cases q : m / 9 < i
  · rw [if_pos q, if_pos q]
  · rw [if_neg q, if_neg q, show (m + 9) / 9 = m / 9 + 1 by omega, show (m + 9) % 9 = m % 9 by omega, show (m + 9) % 3 = m % 3 by omega]
theorem cAt_big {ps : List TP} (hl : ps.length ≤ 3) {m : Nat} (hm : 27 ≤ m) : cAt ps m = none := by
  unfold cAt
  rw [List.getElem?_eq_none (by omega)]
  rfl
theorem erase_slots {ps : List TP} (hl : ps.length ≤ 3) (i : Nat) (m : Nat) (hm : m < 27) : cAt (ps.eraseIdx i) m = if 9 * i ≤ m ∧ m < 27 then (if m + 9 < 27 then cAt ps (m + 9) else none) else cAt ps m := by
  rw [cAt_erase]
  by_cases q : m / 9 < i
  · rw [if_pos q, if_neg (by omega)]
  · rw [if_neg q, if_pos (by omega)]
    by_cases q2 : m + 9 < 27
    · rw [if_pos q2]
    · rw [if_neg q2, cAt_big hl (by omega)]
/-- removePredicate at a step -/
theorem isS_rmP {h : AH} {a : Nat} {s : TS} (hS : isS h a s) (hs : okS s) {i : Nat} (hi : i < s.2.length) {k9 v : Int} (hk9 : k9 = ((9 * i : Nat) : Int)) (hv : v = s.2.length - 1) : isS (si (hGap h a k9 9 27 27) a 2 v) a (s.1, s.2.eraseIdx i) ∧ okS (s.1, s.2.eraseIdx i) ∧ eqO h (si (hGap h a k9 9 27 27) a 2 v) a (a + 2) := by
  obtain ⟨hsh, h0, h1, h2, h3⟩ := hS
  have hle := List.length_eraseIdx_of_lt hi
  subst hk9
  refine ⟨⟨hsh, ?_, ?_, ?_, fun k hk => ?_⟩, ⟨hs.1, by show (s.2.eraseIdx i).length ≤ 3; have := hs.2.1; omega, fun p hp => hs.2.2 p (List.mem_of_mem_eraseIdx hp)⟩, (eqO_hGap h a _ _ _ _).tr (eqO.si (by omega) (by omega))⟩
  · rw [gi_ne (Or.inr (by omega)), gi_hGap, if_neg (by omega)]; exact h0
  · rw [gi_ne (Or.inr (by omega)), gi_hGap, if_neg (by omega)]; exact h1
  · rw [gi_at rfl rfl, hv]; show _ = (((s.2.eraseIdx i).length : Nat) : Int); omega
  · rw [gi_ne (Or.inl (by omega))]
    exact slots_gap (G := 9) (E := 27) h3 (by omega) (fun m hm => erase_slots hs.2.1 i m hm) k hk
def P7 (ps : List TP) (n : Nat) : Prop := cAt ps (3 * n) = some sureC ∧ cAt ps (3 * n + 1) = none
theorem r7_iff {ps : List TP} (ho : ∀ p ∈ ps, okP p) {i : Nat} {p : TP} (hp : ps[i]? = some p) : [sureC] ∈ p ↔ ∃ j, j < 3 ∧ P7 ps (3 * i + j) := by
  have op := ho p (List.mem_of_getElem? hp)
  have l1 := op.2.1
  constructor
  · intro h
    obtain ⟨j, hj⟩ := List.getElem?_of_mem h
    have lj := (List.getElem?_eq_some_iff.mp hj).1
    refine ⟨j, by omega, ?_, ?_⟩
    · rw [show 3 * (3 * i + j) = 9 * i + 3 * j + 0 by omega, cAt_of' hp hj (by omega) (by omega)]
      rfl
    · rw [show 3 * (3 * i + j) + 1 = 9 * i + 3 * j + 1 by omega, cAt_of' hp hj (by omega) (by omega)]
      rfl
  · rintro ⟨j, hj, h1, h2⟩
    obtain ⟨p', a, hp', ha, hc⟩ := cAt_get h1
    rw [show 3 * (3 * i + j) / 9 = i by omega, hp] at hp'
    obtain rfl := Option.some.inj hp'
    rw [show 3 * (3 * i + j) % 9 / 3 = j by omega] at ha
    rw [show 3 * (3 * i + j) % 3 = 0 by omega] at hc
    rw [show 3 * (3 * i + j) + 1 = 9 * i + 3 * j + 1 by omega, cAt_of' hp ha (by omega) (by omega), List.getElem?_eq_none_iff] at h2
    have : a = [sureC] := by
      match a, hc, h2 with
      | [x], hc, _ => simp only [List.getElem?_cons_zero, Option.some.injEq] at hc; rw [hc]
      | x :: y :: r, _, h2 => simp at h2
    rw [← this]
    exact List.mem_of_getElem? ha
theorem r7_miss {ps : List TP} (ho : ∀ p ∈ ps, okP p) (hl : ps.length ≤ 3) (hn : ∀ n, n < 9 → ¬ P7 ps n) : r7S ps = none := by
  refine fr_none fun p hp => ?_
  obtain ⟨i, hi⟩ := List.getElem?_of_mem hp
  have l1 := (List.getElem?_eq_some_iff.mp hi).1
  refine decide_eq_false fun z => ?_
  obtain ⟨j, hj, h⟩ := (r7_iff ho hi).mp z
  exact hn _ (by omega) h
theorem r7_hit {ps : List TP} (ho : ∀ p ∈ ps, okP p) {n : Nat} (hn : P7 ps n) (hf : ∀ j, j < n → ¬ P7 ps j) : n / 3 < ps.length ∧ r7S ps = some (ps.eraseIdx (n / 3)) := by
  obtain ⟨p, a, hp, ha, hc⟩ := cAt_get hn.1
  rw [show 3 * n / 9 = n / 3 by omega] at hp
  refine ⟨(List.getElem?_eq_some_iff.mp hp).1, fr_at hp (decide_eq_true ((r7_iff ho hp).mpr ⟨n % 3, by omega, ?_⟩)) (fun j z hj hz => decide_eq_false fun q => ?_)⟩
  · rw [show 3 * (n / 3) + n % 3 = n by omega]; exact hn
  · obtain ⟨i, hi, h⟩ := (r7_iff ho hz).mp q
    exact hf _ (by omega) h
theorem l_r7 {γ : GG} {h : AH} {a : Nat} {s : TS} (hS : isS h a s) (hs : okS s) : ∀ (m k : Nat), k + m = 9 → (∀ j, j < k → ¬ P7 s.2 j) → AW γ mX8_dropIdlePredicate 2 0 0 2 [(0, vr (some a)), (1, vi (3 * (k : Int)))] [] h (rR h a s (r7S s.2)) := by
  have hS0 := hS
  obtain ⟨⟨hk, hr, hk1⟩, h0, h1, h2, h3⟩ := hS
  intro m
  induction m with
  | zero =>
    intro k hkm hj
    rw [r7_miss hs.2.2 hs.2.1 (fun j hj2 => hj j (by omega))]
    refine aw_iload_n dX8_dropIdlePredicate_2 rfl ?_
    refine aw_bipush dX8_dropIdlePredicate_3 rfl ?_
    refine aw_ic_ge (tgt := 47) dX8_dropIdlePredicate_5 rfl (by omega) (by omega) (fun c5 => ?_) (fun c5 => ?_)
    · refine aw_iconst dX8_dropIdlePredicate_47 ?_
      exact aw_zreturn dX8_dropIdlePredicate_48 rfl (by omega) (Or.inl rfl) ⟨rfl, rfl⟩
    · exact absurd c5 (by omega)
  | succ m ih =>
    intro k hkm hj
    have hb := slotv_bd hs.2.2 (3 * k)
    have hb1 := slotv_bd hs.2.2 (3 * k + 1)
    have hmn : ¬ P7 s.2 k → ∀ j, j < k + 1 → ¬ P7 s.2 j := fun hp j hj2 => by
      by_cases q : j = k
      · rw [q]; exact hp
      · exact hj j (by omega)
    have e1 := slot_sure hs.2.2 (3 * k)
    have e2 := slot_nz hs.2.2 (3 * k + 1)
    have g1 : gi h (a + 1) (3 * (k : Int)) = slotv s.2 (3 * k) := h3 (3 * k) (by omega)
    have g2 : gi h (a + 1) (3 * (k : Int) + 1) = slotv s.2 (3 * k + 1) := h3 (3 * k + 1) (by omega)
    have e3 : 3 * (k : Int) + 3 = 3 * ((k + 1 : Nat) : Int) := by omega
    by_cases p1 : slotv s.2 (3 * k) = 8276
    · by_cases p2 : slotv s.2 (3 * k + 1) = 0
      · obtain ⟨r1, r2⟩ := r7_hit hs.2.2 ⟨e1.mp p1, e2.mp p2⟩ hj
        have hl3 := hs.2.1
        rw [r2]
        refine aw_iload_n dX8_dropIdlePredicate_2 rfl ?_
        refine aw_bipush dX8_dropIdlePredicate_3 rfl ?_
        refine aw_ic_ge (tgt := 47) dX8_dropIdlePredicate_5 rfl (by omega) (by omega) (fun c5 => ?_) (fun c5 => ?_)
        · exact absurd c5 (by omega)
        · refine aw_aload_n dX8_dropIdlePredicate_8 rfl ?_
          refine aw_getr' (j := 3) dX8_dropIdlePredicate_9 fX8_21 rfl (by assumption) rfl (by assumption) ?_
          refine aw_iload_n dX8_dropIdlePredicate_12 rfl ?_
          refine aw_iald' dX8_dropIdlePredicate_13 (by assumption) (by omega) (by first | decide | omega) g1 ?_
          refine aw_sipush dX8_dropIdlePredicate_14 rfl ?_
          refine aw_ic_ne (tgt := 41) dX8_dropIdlePredicate_17 rfl (by omega) (by omega) (fun c17 => ?_) (fun c17 => ?_)
          · exact absurd c17 (by omega)
          · refine aw_aload_n dX8_dropIdlePredicate_20 rfl ?_
            refine aw_getr' (j := 3) dX8_dropIdlePredicate_21 fX8_21 rfl (by assumption) rfl (by assumption) ?_
            refine aw_iload_n dX8_dropIdlePredicate_24 rfl ?_
            refine aw_iconst dX8_dropIdlePredicate_25 ?_
            refine aw_iadd dX8_dropIdlePredicate_26 ?_
            refine aw_iald' dX8_dropIdlePredicate_27 (by assumption) (by omega) (by first | decide | omega) g2 ?_
            refine aw_if_ne (tgt := 41) dX8_dropIdlePredicate_28 rfl (by omega) (fun c28 => ?_) (fun c28 => ?_)
            · exact absurd c28 (by omega)
            · refine aw_aload_n dX8_dropIdlePredicate_31 rfl ?_
              refine aw_iload_n dX8_dropIdlePredicate_32 rfl ?_
              refine aw_bipush dX8_dropIdlePredicate_33 rfl ?_
              refine aw_idiv dX8_dropIdlePredicate_35 (by omega) (by omega) ?_
              refine aw_invV_n dX8_dropIdlePredicate_36 vX8_removePredicate kX8_50 rfl (c_rmP hS0.1 (by omega) (by omega)) ⟨_, (by assumption), _, _, rfl⟩ rfl rfl (by decide) (by decide) (by decide) (Nat.le_of_ble_eq_true rfl) ?_
              refine aw_iconst dX8_dropIdlePredicate_39 ?_
              exact aw_zreturn dX8_dropIdlePredicate_40 rfl (by omega) (Or.inl rfl) ⟨rfl, isS_rmP hS0 hs r1 (by omega) (by rw [h2])⟩
      · have ih' := ih (k + 1) (by omega) (hmn (fun z => p2 (e2.mpr z.2)))
        rw [← e3] at ih'
        refine aw_iload_n dX8_dropIdlePredicate_2 rfl ?_
        refine aw_bipush dX8_dropIdlePredicate_3 rfl ?_
        refine aw_ic_ge (tgt := 47) dX8_dropIdlePredicate_5 rfl (by omega) (by omega) (fun c5 => ?_) (fun c5 => ?_)
        · exact absurd c5 (by omega)
        · refine aw_aload_n dX8_dropIdlePredicate_8 rfl ?_
          refine aw_getr' (j := 3) dX8_dropIdlePredicate_9 fX8_21 rfl (by assumption) rfl (by assumption) ?_
          refine aw_iload_n dX8_dropIdlePredicate_12 rfl ?_
          refine aw_iald' dX8_dropIdlePredicate_13 (by assumption) (by omega) (by first | decide | omega) g1 ?_
          refine aw_sipush dX8_dropIdlePredicate_14 rfl ?_
          refine aw_ic_ne (tgt := 41) dX8_dropIdlePredicate_17 rfl (by omega) (by omega) (fun c17 => ?_) (fun c17 => ?_)
          · exact absurd c17 (by omega)
          · refine aw_aload_n dX8_dropIdlePredicate_20 rfl ?_
            refine aw_getr' (j := 3) dX8_dropIdlePredicate_21 fX8_21 rfl (by assumption) rfl (by assumption) ?_
            refine aw_iload_n dX8_dropIdlePredicate_24 rfl ?_
            refine aw_iconst dX8_dropIdlePredicate_25 ?_
            refine aw_iadd dX8_dropIdlePredicate_26 ?_
            refine aw_iald' dX8_dropIdlePredicate_27 (by assumption) (by omega) (by first | decide | omega) g2 ?_
            refine aw_if_ne (tgt := 41) dX8_dropIdlePredicate_28 rfl (by omega) (fun c28 => ?_) (fun c28 => ?_)
            · refine aw_iinc (k9 := 1) (ls1 := [(1, _), (0, _)]) dX8_dropIdlePredicate_41 rfl (by decide) rfl ?_
              refine aw_goto (tgt := 2) dX8_dropIdlePredicate_44 rfl ?_
              refine aw_sub [1, 0] rfl ?_
              exact ih'
            · exact absurd c28 (by omega)
    · have ih' := ih (k + 1) (by omega) (hmn (fun z => p1 (e1.mpr z.1)))
      rw [← e3] at ih'
      refine aw_iload_n dX8_dropIdlePredicate_2 rfl ?_
      refine aw_bipush dX8_dropIdlePredicate_3 rfl ?_
      refine aw_ic_ge (tgt := 47) dX8_dropIdlePredicate_5 rfl (by omega) (by omega) (fun c5 => ?_) (fun c5 => ?_)
      · exact absurd c5 (by omega)
      · refine aw_aload_n dX8_dropIdlePredicate_8 rfl ?_
        refine aw_getr' (j := 3) dX8_dropIdlePredicate_9 fX8_21 rfl (by assumption) rfl (by assumption) ?_
        refine aw_iload_n dX8_dropIdlePredicate_12 rfl ?_
        refine aw_iald' dX8_dropIdlePredicate_13 (by assumption) (by omega) (by first | decide | omega) g1 ?_
        refine aw_sipush dX8_dropIdlePredicate_14 rfl ?_
        refine aw_ic_ne (tgt := 41) dX8_dropIdlePredicate_17 rfl (by omega) (by omega) (fun c17 => ?_) (fun c17 => ?_)
        · refine aw_iinc (k9 := 1) (ls1 := [(1, _), (0, _)]) dX8_dropIdlePredicate_41 rfl (by decide) rfl ?_
          refine aw_goto (tgt := 2) dX8_dropIdlePredicate_44 rfl ?_
          refine aw_sub [1, 0] rfl ?_
          exact ih'
        · exact absurd c17 (by omega)
theorem c_r7 {γ : GG} {h : AH} {a : Nat} {s : TS} (hS : isS h a s) (hs : okS s) : Call γ mX8_dropIdlePredicate 2 0 0 [vr (some a)] h (rR h a s (r7S s.2)) := by
  refine Call.of (ls := [(0, vr (some a))]) vX8_dropIdlePredicate.1 (Nat.le_of_ble_eq_true rfl) rfl ?_
  refine aw_iconst dX8_dropIdlePredicate_0 ?_
  refine aw_istore_n (ls1 := [(1, _), (0, _)]) dX8_dropIdlePredicate_1 (by decide) rfl ?_
  refine aw_sub [1, 0] rfl ?_
  exact l_r7 hS hs 9 0 (by omega) (fun j hj => by omega)
theorem cAt_aAt {ps : List TP} {i m : Nat} {p : TP} (hp : ps[i]? = some p) (hm : m < 9) : cAt ps (9 * i + m) = aAt p m := by
  unfold cAt aAt
  rw [show (9 * i + m) / 9 = i by omega, hp, show (9 * i + m) % 9 / 3 = m / 3 by omega, show (9 * i + m) % 3 = m % 3 by omega]
  rfl
def g8 (p q : TP) : Bool := t_dP p q && !isPosP q
theorem r8S_eq (ps : List TP) : r8S ps = fn2 g8 ps := rfl
theorem posP_iff {ps : List TP} (ho : ∀ p ∈ ps, okP p) {i : Nat} {p : TP} (hp : ps[i]? = some p) : isPosP p = true ↔ ∃ m, m < 9 ∧ (slotv ps (9 * i + m) % 8 = 1 ∨ slotv ps (9 * i + m) % 8 = 2) := by
  have op := ho p (List.mem_of_getElem? hp)
  constructor
  · intro h
    simp only [isPosP, List.any_eq_true] at h
    obtain ⟨b, hb, c, hc, hpos⟩ := h
    obtain ⟨j, hj⟩ := List.getElem?_of_mem hb
    obtain ⟨k, hk⟩ := List.getElem?_of_mem hc
    have l2 := (List.getElem?_eq_some_iff.mp hj).1
    have l3 := (List.getElem?_eq_some_iff.mp hk).1
    have o2 := op.2.1
    have o3 := (op.2.2 b hb).2.1
    refine ⟨3 * j + k, by omega, (slot_pos ho _).mpr ⟨c, ?_, hpos⟩⟩
    rw [show 9 * i + (3 * j + k) = 9 * i + 3 * j + k by omega]
    exact cAt_of hp hj hk (by omega) (by omega)
  · rintro ⟨m, hm, h⟩
    obtain ⟨c, hc, hpos⟩ := (slot_pos ho _).mp h
    rw [cAt_aAt hp hm] at hc
    obtain ⟨b, hb, hc⟩ := Option.bind_eq_some_iff.mp hc
    simp only [isPosP, List.any_eq_true]
    exact ⟨b, List.mem_of_getElem? hb, c, List.mem_of_getElem? hc, hpos⟩
theorem g8_iff {ps : List TP} (ho : ∀ p ∈ ps, okP p) {v : Nat} (hv : 1 ≤ v) {p q : TP} (hp : ps[v - 1]? = some p) (hq : ps[v]? = some q) : g8 p q = true ↔ ∀ m, m < 9 → slotv ps (9 * v + m) = slotv ps (9 * v + m - 9) ∧ ¬ (slotv ps (9 * v + m) % 8 = 1 ∨ slotv ps (9 * v + m) % 8 = 2) := by
  have op := ho p (List.mem_of_getElem? hp)
  have oq := ho q (List.mem_of_getElem? hq)
  have e0 : ∀ m, 9 * v + m - 9 = 9 * (v - 1) + m := fun m => by omega
  unfold g8
  rw [Bool.and_eq_true, t_dP_iff, Bool.not_eq_true']
  constructor
  · rintro ⟨rfl, h2⟩ m hm
    refine ⟨?_, fun z => ?_⟩
    · rw [e0]
      exact slotv_cong ((cAt_aAt hq hm).trans (cAt_aAt hp hm).symm)
    · rw [(posP_iff ho hq).mpr ⟨m, hm, z⟩] at h2
      cases h2
  · intro h
    refine ⟨p_ext p q 3 op.2.2 oq.2.2 op.2.1 oq.2.1 (fun k hk => ?_), ?_⟩
    · have := slot_eq ho ho (h k (by omega)).1
      rw [e0, cAt_aAt hq (by omega), cAt_aAt hp (by omega)] at this
      exact this.symm
    · cases hz : isPosP q with
      | false => rfl
      | true =>
        obtain ⟨m, hm, z⟩ := (posP_iff ho hq).mp hz
        exact absurd z (h m hm).2
theorem l_rep {γ : GG} {h : AH} {a v : Nat} {s : TS} {p q : TP} (hS : isS h a s) (hs : okS s) (hv : 1 ≤ v ∧ v ≤ 2) (hp : s.2[v - 1]? = some p) (hq : s.2[v]? = some q) : ∀ (m k : Nat), k + m = 9 → (∀ j, j < k → slotv s.2 (9 * v + j) = slotv s.2 (9 * v + j - 9) ∧ ¬ (slotv s.2 (9 * v + j) % 8 = 1 ∨ slotv s.2 (9 * v + j) % 8 = 2)) → AW γ mX8_repeatsOneBefore 1 0 0 7 [(0, vr (some a)), (1, vi (v : Int)), (2, vi ((v : Int) * 9)), (3, vi ((v : Int) * 9 + k))] [] h (rV (vi (if g8 p q = true then 1 else 0)) h) := by
  have hS0 := hS
  obtain ⟨⟨hk, hr, hk1⟩, h0, h1, h2, h3⟩ := hS
  intro m
  induction m with
  | zero =>
    intro k hkm hj
    rw [if_pos ((g8_iff hs.2.2 hv.1 hp hq).mpr (fun m hm => hj m (by omega)))]
    refine aw_iload_n dX8_repeatsOneBefore_7 rfl ?_
    refine aw_iload_n dX8_repeatsOneBefore_8 rfl ?_
    refine aw_bipush dX8_repeatsOneBefore_9 rfl ?_
    refine aw_iadd dX8_repeatsOneBefore_11 ?_
    refine aw_ic_ge (tgt := 58) dX8_repeatsOneBefore_12 rfl (by omega) (by omega) (fun c12 => ?_) (fun c12 => ?_)
    · refine aw_iconst dX8_repeatsOneBefore_58 ?_
      exact aw_zreturn dX8_repeatsOneBefore_59 rfl (by omega) (Or.inl rfl) ⟨rfl, rfl⟩
    · exact absurd c12 (by omega)
  | succ m ih =>
    intro k hkm hj
    have hb := slotv_bd hs.2.2 (9 * v + k)
    have hb1 := slotv_bd hs.2.2 (9 * v + k - 9)
    have g1 : gi h (a + 1) ((v : Int) * 9 + k) = slotv s.2 (9 * v + k) := by
      have := h3 (9 * v + k) (by omega)
      rwa [show ((9 * v + k : Nat) : Int) = (v : Int) * 9 + k by omega] at this
    have g2 : gi h (a + 1) ((v : Int) * 9 + k - 9) = slotv s.2 (9 * v + k - 9) := by
      have := h3 (9 * v + k - 9) (by omega)
      rwa [show ((9 * v + k - 9 : Nat) : Int) = (v : Int) * 9 + k - 9 by omega] at this
    have e3 : (v : Int) * 9 + ((k + 1 : Nat) : Int) = (v : Int) * 9 + k + 1 := by omega
    have K := c_cAt (γ := γ) (k := (v : Int) * 9 + k - 9) hS0.1 (by omega)
    rw [if_pos (by omega), g2] at K
    have K2 := c_isPositional (γ := γ) (h := h) hb
    by_cases p1 : slotv s.2 (9 * v + k) = slotv s.2 (9 * v + k - 9)
    · by_cases p2 : slotv s.2 (9 * v + k) % 8 = 1 ∨ slotv s.2 (9 * v + k) % 8 = 2
      · rw [if_pos p2] at K2
        rw [if_neg (fun z => ((g8_iff hs.2.2 hv.1 hp hq).mp z k (by omega)).2 p2)]
        refine aw_iload_n dX8_repeatsOneBefore_7 rfl ?_
        refine aw_iload_n dX8_repeatsOneBefore_8 rfl ?_
        refine aw_bipush dX8_repeatsOneBefore_9 rfl ?_
        refine aw_iadd dX8_repeatsOneBefore_11 ?_
        refine aw_ic_ge (tgt := 58) dX8_repeatsOneBefore_12 rfl (by omega) (by omega) (fun c12 => ?_) (fun c12 => ?_)
        · exact absurd c12 (by omega)
        · refine aw_iload_n dX8_repeatsOneBefore_15 rfl ?_
          refine aw_bipush dX8_repeatsOneBefore_16 rfl ?_
          refine aw_ic_ge (tgt := 58) dX8_repeatsOneBefore_18 rfl (by omega) (by omega) (fun c18 => ?_) (fun c18 => ?_)
          · exact absurd c18 (by omega)
          · refine aw_aload_n dX8_repeatsOneBefore_21 rfl ?_
            refine aw_getr' (j := 3) dX8_repeatsOneBefore_22 fX8_21 rfl (by assumption) rfl (by assumption) ?_
            refine aw_iload_n dX8_repeatsOneBefore_25 rfl ?_
            refine aw_iald' dX8_repeatsOneBefore_26 (by assumption) (by omega) (by first | decide | omega) g1 ?_
            refine aw_aload_n dX8_repeatsOneBefore_27 rfl ?_
            refine aw_iload_n dX8_repeatsOneBefore_28 rfl ?_
            refine aw_bipush dX8_repeatsOneBefore_29 rfl ?_
            refine aw_isub dX8_repeatsOneBefore_31 ?_
            refine aw_invV_r dX8_repeatsOneBefore_32 vX8_conditionAt kX8_57 rfl (K) ⟨_, (by assumption), _, _, rfl⟩ rfl rfl (by decide) (by decide) (by decide) (Nat.le_of_ble_eq_true rfl) ?_
            refine aw_ic_ne (tgt := 50) dX8_repeatsOneBefore_35 rfl (by omega) (by omega) (fun c35 => ?_) (fun c35 => ?_)
            · exact absurd c35 (by omega)
            · refine aw_aload_n dX8_repeatsOneBefore_38 rfl ?_
              refine aw_getr' (j := 3) dX8_repeatsOneBefore_39 fX8_21 rfl (by assumption) rfl (by assumption) ?_
              refine aw_iload_n dX8_repeatsOneBefore_42 rfl ?_
              refine aw_iald' dX8_repeatsOneBefore_43 (by assumption) (by omega) (by first | decide | omega) g1 ?_
              refine aw_invS_r dX8_repeatsOneBefore_44 sX0_isPositional kX8_43 rfl (K2) rfl rfl (by decide) (by decide) (by decide) (Nat.le_of_ble_eq_true rfl) ?_
              refine aw_if_eq (tgt := 52) dX8_repeatsOneBefore_47 rfl (by omega) (fun c47 => ?_) (fun c47 => ?_)
              · exact absurd c47 (by omega)
              · refine aw_iconst dX8_repeatsOneBefore_50 ?_
                exact aw_zreturn dX8_repeatsOneBefore_51 rfl (by omega) (Or.inl rfl) ⟨rfl, rfl⟩
      · rw [if_neg p2] at K2
        have ih' := ih (k + 1) (by omega) (fun j hj2 => by
          by_cases q9 : j = k
          · rw [q9]; exact ⟨p1, p2⟩
          · exact hj j (by omega))
        rw [e3] at ih'
        refine aw_iload_n dX8_repeatsOneBefore_7 rfl ?_
        refine aw_iload_n dX8_repeatsOneBefore_8 rfl ?_
        refine aw_bipush dX8_repeatsOneBefore_9 rfl ?_
        refine aw_iadd dX8_repeatsOneBefore_11 ?_
        refine aw_ic_ge (tgt := 58) dX8_repeatsOneBefore_12 rfl (by omega) (by omega) (fun c12 => ?_) (fun c12 => ?_)
        · exact absurd c12 (by omega)
        · refine aw_iload_n dX8_repeatsOneBefore_15 rfl ?_
          refine aw_bipush dX8_repeatsOneBefore_16 rfl ?_
          refine aw_ic_ge (tgt := 58) dX8_repeatsOneBefore_18 rfl (by omega) (by omega) (fun c18 => ?_) (fun c18 => ?_)
          · exact absurd c18 (by omega)
          · refine aw_aload_n dX8_repeatsOneBefore_21 rfl ?_
            refine aw_getr' (j := 3) dX8_repeatsOneBefore_22 fX8_21 rfl (by assumption) rfl (by assumption) ?_
            refine aw_iload_n dX8_repeatsOneBefore_25 rfl ?_
            refine aw_iald' dX8_repeatsOneBefore_26 (by assumption) (by omega) (by first | decide | omega) g1 ?_
            refine aw_aload_n dX8_repeatsOneBefore_27 rfl ?_
            refine aw_iload_n dX8_repeatsOneBefore_28 rfl ?_
            refine aw_bipush dX8_repeatsOneBefore_29 rfl ?_
            refine aw_isub dX8_repeatsOneBefore_31 ?_
            refine aw_invV_r dX8_repeatsOneBefore_32 vX8_conditionAt kX8_57 rfl (K) ⟨_, (by assumption), _, _, rfl⟩ rfl rfl (by decide) (by decide) (by decide) (Nat.le_of_ble_eq_true rfl) ?_
            refine aw_ic_ne (tgt := 50) dX8_repeatsOneBefore_35 rfl (by omega) (by omega) (fun c35 => ?_) (fun c35 => ?_)
            · exact absurd c35 (by omega)
            · refine aw_aload_n dX8_repeatsOneBefore_38 rfl ?_
              refine aw_getr' (j := 3) dX8_repeatsOneBefore_39 fX8_21 rfl (by assumption) rfl (by assumption) ?_
              refine aw_iload_n dX8_repeatsOneBefore_42 rfl ?_
              refine aw_iald' dX8_repeatsOneBefore_43 (by assumption) (by omega) (by first | decide | omega) g1 ?_
              refine aw_invS_r dX8_repeatsOneBefore_44 sX0_isPositional kX8_43 rfl (K2) rfl rfl (by decide) (by decide) (by decide) (Nat.le_of_ble_eq_true rfl) ?_
              refine aw_if_eq (tgt := 52) dX8_repeatsOneBefore_47 rfl (by omega) (fun c47 => ?_) (fun c47 => ?_)
              · refine aw_iinc (k9 := 3) (ls1 := [(3, _), (0, _), (1, _), (2, _)]) dX8_repeatsOneBefore_52 rfl (by decide) rfl ?_
                refine aw_goto (tgt := 7) dX8_repeatsOneBefore_55 rfl ?_
                refine aw_sub [1, 2, 3, 0] rfl ?_
                exact ih'
              · exact absurd c47 (by omega)
    · rw [if_neg (fun z => p1 ((g8_iff hs.2.2 hv.1 hp hq).mp z k (by omega)).1)]
      refine aw_iload_n dX8_repeatsOneBefore_7 rfl ?_
      refine aw_iload_n dX8_repeatsOneBefore_8 rfl ?_
      refine aw_bipush dX8_repeatsOneBefore_9 rfl ?_
      refine aw_iadd dX8_repeatsOneBefore_11 ?_
      refine aw_ic_ge (tgt := 58) dX8_repeatsOneBefore_12 rfl (by omega) (by omega) (fun c12 => ?_) (fun c12 => ?_)
      · exact absurd c12 (by omega)
      · refine aw_iload_n dX8_repeatsOneBefore_15 rfl ?_
        refine aw_bipush dX8_repeatsOneBefore_16 rfl ?_
        refine aw_ic_ge (tgt := 58) dX8_repeatsOneBefore_18 rfl (by omega) (by omega) (fun c18 => ?_) (fun c18 => ?_)
        · exact absurd c18 (by omega)
        · refine aw_aload_n dX8_repeatsOneBefore_21 rfl ?_
          refine aw_getr' (j := 3) dX8_repeatsOneBefore_22 fX8_21 rfl (by assumption) rfl (by assumption) ?_
          refine aw_iload_n dX8_repeatsOneBefore_25 rfl ?_
          refine aw_iald' dX8_repeatsOneBefore_26 (by assumption) (by omega) (by first | decide | omega) g1 ?_
          refine aw_aload_n dX8_repeatsOneBefore_27 rfl ?_
          refine aw_iload_n dX8_repeatsOneBefore_28 rfl ?_
          refine aw_bipush dX8_repeatsOneBefore_29 rfl ?_
          refine aw_isub dX8_repeatsOneBefore_31 ?_
          refine aw_invV_r dX8_repeatsOneBefore_32 vX8_conditionAt kX8_57 rfl (K) ⟨_, (by assumption), _, _, rfl⟩ rfl rfl (by decide) (by decide) (by decide) (Nat.le_of_ble_eq_true rfl) ?_
          refine aw_ic_ne (tgt := 50) dX8_repeatsOneBefore_35 rfl (by omega) (by omega) (fun c35 => ?_) (fun c35 => ?_)
          · refine aw_iconst dX8_repeatsOneBefore_50 ?_
            exact aw_zreturn dX8_repeatsOneBefore_51 rfl (by omega) (Or.inl rfl) ⟨rfl, rfl⟩
          · exact absurd c35 (by omega)
theorem c_rep {γ : GG} {h : AH} {a v : Nat} {s : TS} {p q : TP} (hS : isS h a s) (hs : okS s) (hv : 1 ≤ v ∧ v ≤ 2) (hp : s.2[v - 1]? = some p) (hq : s.2[v]? = some q) : Call γ mX8_repeatsOneBefore 1 0 0 [vr (some a), vi (v : Int)] h (rV (vi (if g8 p q = true then 1 else 0)) h) := by
  have K := l_rep (γ := γ) hS hs hv hp hq 9 0 (by omega) (fun j hj => by omega)
  rw [show (v : Int) * 9 + ((0 : Nat) : Int) = (v : Int) * 9 by omega] at K
  refine Call.of (ls := [(0, vr (some a)), (1, vi (v : Int))]) vX8_repeatsOneBefore.1 (Nat.le_of_ble_eq_true rfl) rfl ?_
  refine aw_iload_n dX8_repeatsOneBefore_0 rfl ?_
  refine aw_bipush dX8_repeatsOneBefore_1 rfl ?_
  refine aw_imul dX8_repeatsOneBefore_3 ?_
  refine aw_istore_n (ls1 := [(2, _), (0, _), (1, _)]) dX8_repeatsOneBefore_4 (by decide) rfl ?_
  refine aw_iload_n dX8_repeatsOneBefore_5 rfl ?_
  refine aw_istore_n (ls1 := [(3, _), (2, _), (0, _), (1, _)]) dX8_repeatsOneBefore_6 (by decide) rfl ?_
  refine aw_sub [2, 3, 1, 0] rfl ?_
  exact K
theorem l_r8 {γ : GG} {h : AH} {a : Nat} {s : TS} (hS : isS h a s) (hs : okS s) : ∀ (m k : Nat), 1 ≤ k → (k + m = s.2.length ∨ (m = 0 ∧ s.2.length ≤ k ∧ k ≤ 3)) → (∀ j x y, j + 1 < k → s.2[j]? = some x → s.2[j + 1]? = some y → g8 x y = false) → AW γ mX8_dropRepeatedPredicate 2 0 0 2 [(0, vr (some a)), (1, vi (k : Int))] [] h (rR h a s (r8S s.2)) := by
  have hS0 := hS
  obtain ⟨⟨hk, hr, hk1⟩, h0, h1, h2, h3⟩ := hS
  have hl3 := hs.2.1
  intro m
  induction m with
  | zero =>
    intro k hk1' hkm hj
    rw [r8S_eq, fn2_none (fun j x y hx hy => hj j x y (by have := (List.getElem?_eq_some_iff.mp hy).1; omega) hx hy)]
    refine aw_iload_n dX8_dropRepeatedPredicate_2 rfl ?_
    refine aw_aload_n dX8_dropRepeatedPredicate_3 rfl ?_
    refine aw_geti' (j := 2) dX8_dropRepeatedPredicate_4 fX8_18 rfl (by assumption) rfl h2 ?_
    refine aw_ic_ge (tgt := 31) dX8_dropRepeatedPredicate_7 rfl (by omega) (by omega) (fun c7 => ?_) (fun c7 => ?_)
    · refine aw_iconst dX8_dropRepeatedPredicate_31 ?_
      exact aw_zreturn dX8_dropRepeatedPredicate_32 rfl (by omega) (Or.inl rfl) ⟨rfl, rfl⟩
    · exact absurd c7 (by omega)
  | succ m ih =>
    intro k hk1' hkm hj
    have lk : k < s.2.length := by omega
    obtain ⟨q, hq⟩ : ∃ q, s.2[k]? = some q := ⟨_, List.getElem?_eq_getElem lk⟩
    obtain ⟨p, hp⟩ : ∃ p, s.2[k - 1]? = some p := ⟨_, List.getElem?_eq_getElem (by omega)⟩
    have K := c_rep (γ := γ) hS0 hs (v := k) (by omega) hp hq
    have hq' : s.2[k - 1 + 1]? = some q := by rw [show k - 1 + 1 = k by omega]; exact hq
    by_cases p1 : g8 p q = true
    · rw [if_pos p1] at K
      have e8 := fn2_at hp hq' p1 (fun j x y hj2 hx hy => hj j x y (by omega) hx hy)
      rw [show k - 1 + 1 = k by omega] at e8
      rw [r8S_eq, e8]
      refine aw_iload_n dX8_dropRepeatedPredicate_2 rfl ?_
      refine aw_aload_n dX8_dropRepeatedPredicate_3 rfl ?_
      refine aw_geti' (j := 2) dX8_dropRepeatedPredicate_4 fX8_18 rfl (by assumption) rfl h2 ?_
      refine aw_ic_ge (tgt := 31) dX8_dropRepeatedPredicate_7 rfl (by omega) (by omega) (fun c7 => ?_) (fun c7 => ?_)
      · exact absurd c7 (by omega)
      · refine aw_aload_n dX8_dropRepeatedPredicate_10 rfl ?_
        refine aw_iload_n dX8_dropRepeatedPredicate_11 rfl ?_
        refine aw_invV_r dX8_dropRepeatedPredicate_12 vX8_repeatsOneBefore kX8_54 rfl (K) ⟨_, (by assumption), _, _, rfl⟩ rfl rfl (by decide) (by decide) (by decide) (Nat.le_of_ble_eq_true rfl) ?_
        refine aw_if_eq (tgt := 25) dX8_dropRepeatedPredicate_15 rfl (by omega) (fun c15 => ?_) (fun c15 => ?_)
        · exact absurd c15 (by omega)
        · refine aw_aload_n dX8_dropRepeatedPredicate_18 rfl ?_
          refine aw_iload_n dX8_dropRepeatedPredicate_19 rfl ?_
          refine aw_invV_n dX8_dropRepeatedPredicate_20 vX8_removePredicate kX8_50 rfl (c_rmP hS0.1 (by omega) (by omega)) ⟨_, (by assumption), _, _, rfl⟩ rfl rfl (by decide) (by decide) (by decide) (Nat.le_of_ble_eq_true rfl) ?_
          refine aw_iconst dX8_dropRepeatedPredicate_23 ?_
          exact aw_zreturn dX8_dropRepeatedPredicate_24 rfl (by omega) (Or.inl rfl) ⟨rfl, isS_rmP hS0 hs lk (by omega) (by rw [h2])⟩
    · rw [if_neg p1] at K
      have ih' := ih (k + 1) (by omega) (by omega) (fun j x y hj2 hx hy => by
        by_cases q9 : j + 1 = k
        · rw [show j = k - 1 by omega, hp] at hx
          rw [q9, hq] at hy
          rw [← Option.some.inj hx, ← Option.some.inj hy]
          exact Bool.eq_false_iff.mpr p1
        · exact hj j x y (by omega) hx hy)
      refine aw_iload_n dX8_dropRepeatedPredicate_2 rfl ?_
      refine aw_aload_n dX8_dropRepeatedPredicate_3 rfl ?_
      refine aw_geti' (j := 2) dX8_dropRepeatedPredicate_4 fX8_18 rfl (by assumption) rfl h2 ?_
      refine aw_ic_ge (tgt := 31) dX8_dropRepeatedPredicate_7 rfl (by omega) (by omega) (fun c7 => ?_) (fun c7 => ?_)
      · exact absurd c7 (by omega)
      · refine aw_aload_n dX8_dropRepeatedPredicate_10 rfl ?_
        refine aw_iload_n dX8_dropRepeatedPredicate_11 rfl ?_
        refine aw_invV_r dX8_dropRepeatedPredicate_12 vX8_repeatsOneBefore kX8_54 rfl (K) ⟨_, (by assumption), _, _, rfl⟩ rfl rfl (by decide) (by decide) (by decide) (Nat.le_of_ble_eq_true rfl) ?_
        refine aw_if_eq (tgt := 25) dX8_dropRepeatedPredicate_15 rfl (by omega) (fun c15 => ?_) (fun c15 => ?_)
        · refine aw_iinc (k9 := 1) (ls1 := [(1, _), (0, _)]) dX8_dropRepeatedPredicate_25 rfl (by decide) rfl ?_
          refine aw_goto (tgt := 2) dX8_dropRepeatedPredicate_28 rfl ?_
          refine aw_sub [1, 0] rfl ?_
          exact ih'
        · exact absurd c15 (by omega)
theorem c_r8 {γ : GG} {h : AH} {a : Nat} {s : TS} (hS : isS h a s) (hs : okS s) : Call γ mX8_dropRepeatedPredicate 2 0 0 [vr (some a)] h (rR h a s (r8S s.2)) := by
  refine Call.of (ls := [(0, vr (some a))]) vX8_dropRepeatedPredicate.1 (Nat.le_of_ble_eq_true rfl) rfl ?_
  refine aw_iconst dX8_dropRepeatedPredicate_0 ?_
  refine aw_istore_n (ls1 := [(1, _), (0, _)]) dX8_dropRepeatedPredicate_1 (by decide) rfl ?_
  refine aw_sub [1, 0] rfl ?_
  exact l_r8 hS hs (s.2.length - 1) 1 (by omega) (by have := hs.2.1; omega) (fun j x y hj => by omega)
