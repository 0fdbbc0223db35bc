/-! ===== states as values; the model: has, take, lay, keep ===== -/
/-- a tree: how many nodes, their names, values, parents -/
abbrev Tr : Type := Nat × (Nat → Int) × (Nat → Int) × (Nat → Int)
abbrev St : Type := Tr × (Nat → TQ)
def okTr (T : Tr) : Prop := 1 ≤ T.1 ∧ T.1 ≤ 40 ∧ (∀ k, k < T.1 → 0 ≤ T.2.1 k ∧ T.2.1 k ≤ 7 ∧ 0 ≤ T.2.2.1 k ∧ T.2.2.1 k ≤ 9) ∧ T.2.2.2 0 = -1 ∧ (∀ k, 1 ≤ k → k < T.1 → 0 ≤ T.2.2.2 k ∧ T.2.2.2 k < k) ∧ ∀ k j : Nat, 1 ≤ k → k < T.1 → T.2.2.2 k < j → j < k → T.2.2.2 k ≤ T.2.2.2 j
def okSt (S : St) : Prop := okTr S.1 ∧ ∀ p, p < 4 → okQ (S.2 p) ∧ lnQ (S.2 p)
def gTr (f : Int → Int) (o : Int) (T : Tr) : Prop := f o = T.1 ∧ ∀ k : Nat, k < T.1 → f (o + 1 + 3 * k) = T.2.1 k ∧ f (o + 2 + 3 * k) = T.2.2.1 k ∧ f (o + 3 + 3 * k) = T.2.2.2 k
def gWr (f : Int → Int) (o : Int) (p : Nat) (q : TQ) : Prop := f (o + 121 + p) = (wQry q).length ∧ ∀ (k : Nat) (c : Int), (wQry q)[k]? = some c → f (o + 125 + 400 * p + k) = c
def gSt (f : Int → Int) (o : Int) (S : St) : Prop := gTr f o S.1 ∧ ∀ p, p < 4 → gWr f o p (S.2 p)
theorem wQry_le {q : TQ} (ho : okQ q) (hw : lnQ q) : (wQry q).length ≤ 387 := by
  have l4 := ho.1
  by_cases q0 : q = []
  · subst q0; decide
  · have e := jn_len 124 (q.map wPath) (by simpa using q0)
    rw [List.map_map] at e
    have : ∀ l : TQ, (∀ t ∈ l, (wPath t).length ≤ 96) → (l.map ((fun x => x.length + 1) ∘ wPath)).sum ≤ 97 * l.length := by
      intro l
      induction l with
      | nil => intro _; simp
      | cons t r ih =>
        intro h
        have h1 := h t List.mem_cons_self
        have h2 := ih (fun y hy => h y (List.mem_cons_of_mem _ hy))
        simp only [List.map_cons, List.sum_cons, Function.comp, List.length_cons] at h2 ⊢
        omega
    have := this q (fun t ht => wPath_96 ho hw ht)
    unfold wQry
    omega
theorem gSt_eq {f g : Int → Int} {o o' : Int} {S : St} (ho : okSt S) (h : gSt f o S) (e : ∀ j : Int, 0 ≤ j → j < 1725 → g (o' + j) = f (o + j)) : gSt g o' S := by
  obtain ⟨⟨h1, h2⟩, h3⟩ := h
  have hn := ho.1.2.1
  refine ⟨⟨?_, fun k hk => ?_⟩, fun p hp => ⟨?_, fun k c hc => ?_⟩⟩
  · have := e 0 (by omega) (by omega)
    simp only [Int.add_zero] at this
    exact this.trans h1
  · have e1 := e (1 + 3 * k) (by omega) (by omega)
    have e2 := e (2 + 3 * k) (by omega) (by omega)
    have e3 := e (3 + 3 * k) (by omega) (by omega)
    rw [← Int.add_assoc, ← Int.add_assoc] at e1 e2 e3
    obtain ⟨a1, a2, a3⟩ := h2 k hk
    exact ⟨e1.trans a1, e2.trans a2, e3.trans a3⟩
  · have e1 := e (121 + p) (by omega) (by omega)
    rw [← Int.add_assoc, ← Int.add_assoc] at e1
    exact e1.trans (h3 p hp).1
  · have lk := lt_of_get hc
    have := wQry_le (ho.2 p hp).1 (ho.2 p hp).2
    have e1 := e (125 + 400 * p + k) (by omega) (by omega)
    rw [← Int.add_assoc, ← Int.add_assoc, ← Int.add_assoc, ← Int.add_assoc] at e1
    exact e1.trans ((h3 p hp).2 k c hc)
def isMd (h : AH) (a : Nat) (S : St) (U : List St) (tx : List Nat) : Prop :=
  shM h a ∧ gSt (gi h (a + 1)) 0 S ∧ okSt S ∧ gi h a 2 = U.length ∧ U.length ≤ 4 ∧ (∀ S' ∈ U, okSt S') ∧ (∀ (i : Nat) (S' : St), U[i]? = some S' → gSt (gi h (a + 2)) (1725 * i) S') ∧ gi h a 4 = tx.length ∧ tx.length ≤ 80 ∧ (∀ c ∈ tx, c < 128) ∧ ∀ (k : Nat) (c : Nat), tx[k]? = some c → gi h (a + 3) k = c
/-- what calls that ask may write: nothing of the state -/
def SK (a : Nat) : Nat → Int → Prop := fun b j => (b = a ∧ j ≠ 2 ∧ j ≠ 4) ∨ (a + 4 ≤ b ∧ b ≤ a + 17)
theorem isMd.eqk {h h' : AH} {a : Nat} {S : St} {U : List St} {tx : List Nat} (hm : isMd h a S U tx) (e : eqG (SK a) h h') : isMd h' a S U tx := by
  obtain ⟨m1, m2, m3, m4, m5, m6, m7, m8, m9, m10, m11⟩ := hm
  have e1 : gi h' (a + 1) = gi h (a + 1) := by funext j; exact e.2.2.2.2 _ _ (by unfold SK; omega)
  have e2 : gi h' (a + 2) = gi h (a + 2) := by funext j; exact e.2.2.2.2 _ _ (by unfold SK; omega)
  refine ⟨e.sh m1, by rw [e1]; exact m2, m3, (e.2.2.2.2 _ _ (by unfold SK; omega)).trans m4, m5, m6, by rw [e2]; exact m7, (e.2.2.2.2 _ _ (by unfold SK; omega)).trans m8, m9, m10, fun k c hc => (e.2.2.2.2 _ _ (by unfold SK; omega)).trans (m11 k c hc)⟩
theorem shM.m {h : AH} {a : Nat} (g : shM h a) : gr h a 0 = some (a + 1) ∧ kd h (a + 1) = some (.inr (1, 1725)) := g.2.1
theorem shM.v {h : AH} {a : Nat} (g : shM h a) : gr h a 1 = some (a + 2) ∧ kd h (a + 2) = some (.inr (1, 6900)) := g.2.2.1
theorem shM.s {h : AH} {a : Nat} (g : shM h a) : gr h a 9 = some (a + 6) ∧ kd h (a + 6) = some (.inr (1, 400)) := g.2.2.2.2.2.2.1
theorem shM.o {h : AH} {a : Nat} (g : shM h a) : gr h a 13 = some (a + 8) ∧ kd h (a + 8) = some (.inr (1, 1000)) := g.2.2.2.2.2.2.2.2.1
theorem shM.x {h : AH} {a : Nat} (g : shM h a) : gr h a 3 = some (a + 3) ∧ kd h (a + 3) = some (.inr (1, 80)) := g.2.2.2.1
theorem wQ_0 {q : TQ} (ho : okQ q) : (wQry q).length = 0 ↔ q = [] := by
  constructor
  · intro h
    match q, ho with
    | [], _ => rfl
    | t :: r, ho =>
      have e := jn_len 124 ((t :: r).map wPath) (by simp)
      have o := ho.2 t List.mem_cons_self
      have e2 := jn_len 47 (t.2.map wStep) (by intro z; have := congrArg List.length z; simp at this; have := o.1; rw [‹t.2 = []›] at this; simp at this)
      unfold wQry at h
      rw [List.map_map] at e e2
      simp only [List.map_cons, List.sum_cons, Function.comp] at e h
      have h2 : (wPath t).length = 0 := by omega
      unfold wPath at h2
      rw [List.length_append] at h2
      match t, o, h2, e2 with
      | (b, s :: l), o, h2, e2 =>
        simp only [List.map_cons, List.sum_cons, Function.comp] at e2 h2
        have h3 : (wStep s).length = 0 := by omega
        unfold wStep at h3
        rw [List.length_append] at h3
        have := wTest_len s.1
        omega
      | (b, []), o, _, _ => exact absurd o.1 (by simp)
  · intro h
    subst h
    rfl
theorem m_has {γ : GG} {h : AH} {a p : Nat} {S : St} {U : List St} {tx : List Nat} (hm : isMd h a S U tx) (hp : p < 4) : Call γ mX12_has 0 0 0 [vr (some a), vi (p : Int)] h (rV (vi (if S.2 p = [] then 0 else 1)) h) := by
  obtain ⟨hka, -, -⟩ := hm.1.q
  obtain ⟨rm, km⟩ := hm.1.m
  have g0 := (hm.2.1.2 p hp).1
  rw [show (0 : Int) + 121 + (p : Int) = 121 + (p : Int) by omega] at g0
  have ho := hm.2.2.1.2 p hp
  have hb := wQry_le ho.1 ho.2
  by_cases q : S.2 p = []
  · rw [if_pos q]
    rw [q] at g0
    have g1 : gi h (a + 1) (121 + (p : Int)) = 0 := g0
    refine Call.of (ls := [(0, vr (some a)), (1, vi (p : Int))]) vX12_has.1 (Nat.le_of_ble_eq_true rfl) rfl ?_
    refine aw_aload_n dX12_has_0 rfl ?_
    refine aw_getr' (j := 0) dX12_has_1 fX12_7 rfl (by assumption) rfl (by assumption) ?_
    refine aw_bipush dX12_has_4 rfl ?_
    refine aw_iload_n dX12_has_6 rfl ?_
    refine aw_iadd dX12_has_7 ?_
    refine aw_iald' dX12_has_8 (by assumption) (by omega) (by first | decide | omega) g1 ?_
    refine aw_if_le (tgt := 16) dX12_has_9 rfl (by omega) (fun c9 => ?_) (fun c9 => ?_)
    · refine aw_iconst dX12_has_16 ?_
      exact aw_zreturn dX12_has_17 rfl (by omega) (Or.inl rfl) ⟨rfl, rfl⟩
    · exact absurd c9 (by omega)
  · rw [if_neg q]
    have h9 : (wQry (S.2 p)).length ≠ 0 := fun z => q ((wQ_0 ho.1).mp z)
    refine Call.of (ls := [(0, vr (some a)), (1, vi (p : Int))]) vX12_has.1 (Nat.le_of_ble_eq_true rfl) rfl ?_
    refine aw_aload_n dX12_has_0 rfl ?_
    refine aw_getr' (j := 0) dX12_has_1 fX12_7 rfl (by assumption) rfl (by assumption) ?_
    refine aw_bipush dX12_has_4 rfl ?_
    refine aw_iload_n dX12_has_6 rfl ?_
    refine aw_iadd dX12_has_7 ?_
    refine aw_iald' dX12_has_8 (by assumption) (by omega) (by first | decide | omega) g0 ?_
    refine aw_if_le (tgt := 16) dX12_has_9 rfl (by omega) (fun c9 => ?_) (fun c9 => ?_)
    · exact absurd c9 (by omega)
    · refine aw_iconst dX12_has_12 ?_
      refine aw_goto (tgt := 17) dX12_has_13 rfl ?_
      exact aw_zreturn dX12_has_17 rfl (by omega) (Or.inl rfl) ⟨rfl, rfl⟩
theorem l_tk {γ : GG} {a p : Nat} {S : St} {U : List St} {tx : List Nat} {h : AH} (hm : isMd h a S U tx) (hp : p < 4) (hq : S.2 p ≠ []) : ∀ (m k : Nat) (H : AH), k + m = (wQry (S.2 p)).length → eqG (SK a) h H → gi H a 10 = (wQry (S.2 p)).length → (∀ (j : Nat) (c : Int), j < k → (wQry (S.2 p))[j]? = some c → gi H (a + 6) j = c) → AW γ mX12_take 10 0 0 15 [(2, vi (k : Int)), (0, vr (some a)), (1, vi (p : Int))] [] H (rF (fun h' => eqG (SK a) h h' ∧ gQ (gi h' (a + 7)) (S.2 p))) := by
  have ho := hm.2.2.1.2 p hp
  have hb := wQry_le ho.1 ho.2
  have g3 := hm.2.1.2 p hp
  intro m
  induction m with
  | zero =>
    intro k H hkm hE h10 hj
    have hM1 := hE.sh hm.1
    obtain ⟨hka, rq, kq⟩ := hM1.q
    have hX : isX H a (fW (S.2 p)) (wQry (S.2 p)).length := ⟨hM1, h10, by omega, fun j hj2 => by
      obtain ⟨c, hc⟩ : ∃ c, (wQry (S.2 p))[j]? = some c := ⟨_, List.getElem?_eq_getElem hj2⟩
      have bc := byt_qry ho.1 c (List.mem_of_getElem? hc)
      rw [hj j c (by omega) hc]
      unfold fW
      rw [List.getD_eq_getElem?_getD, hc]
      simp only [Option.getD_some]
      omega, fW_lt ho.1⟩
    obtain ⟨f1, f2⟩ := flt_wQ ho.1 (by have := List.length_pos_iff.mpr hq; omega) (f := fW (S.2 p)) (fun k _ => rfl)
    have KR := m_readAll (γ := γ) hX
    unfold vQ at KR
    rw [if_pos f1] at KR
    refine aw_iload_n dX12_take_15 rfl ?_
    refine aw_aload_n dX12_take_16 rfl ?_
    refine aw_geti' (j := 10) dX12_take_17 fX12_134 rfl (by assumption) rfl h10 ?_
    refine aw_ic_ge (tgt := 50) dX12_take_20 rfl (by omega) (by omega) (fun c20 => ?_) (fun c20 => ?_)
    · refine aw_aload_n dX12_take_50 rfl ?_
      refine aw_aload_n dX12_take_51 rfl ?_
      refine aw_invV_e dX12_take_52 vX12_readAll kX12_207 rfl (KR) ⟨_, (by assumption), _, _, rfl⟩ rfl rfl (by decide) (by decide) (by decide) (Nat.le_of_ble_eq_true rfl) (fun h1 hP9 => ?_)
      obtain ⟨E1, Y1, N1⟩ := hP9
      obtain ⟨G1, -, -, -⟩ := Y1 f1
      rw [f2] at G1
      have hka1 := (E1.1 a).trans hka
      refine aw_if_eq (tgt := 62) dX12_take_55 rfl (by omega) (fun c55 => ?_) (fun c55 => ?_)
      · exact absurd c55 (by omega)
      · refine aw_iconst dX12_take_58 ?_
        refine aw_goto (tgt := 66) dX12_take_59 rfl ?_
        refine aw_puti' (j := 11) rfl dX12_take_66 fX12_131 (by assumption) rfl ?_
        exact aw_return dX12_take_69 rfl (Or.inl rfl) ⟨rfl, (hE.tr (E1.mono (fun b j z => by unfold SR at z; unfold SK; omega))).tr (eqG.si (by unfold SK; omega)), by rw [gi_a7]; exact G1⟩
    · exact absurd c20 (by omega)
  | succ m ih =>
    intro k H hkm hE h10 hj
    have hM1 := hE.sh hm.1
    obtain ⟨hka, rq, kq⟩ := hM1.q
    obtain ⟨rm, km⟩ := hM1.m
    obtain ⟨rs, ks⟩ := hM1.s
    obtain ⟨c, hc⟩ : ∃ c, (wQry (S.2 p))[k]? = some c := ⟨_, List.getElem?_eq_getElem (by omega)⟩
    have gc : gi H (a + 1) (125 + 400 * (p : Int) + (k : Int)) = c := by
      rw [hE.2.2.2.2 _ _ (by unfold SK; omega)]
      have := g3.2 k c hc
      rw [show (0 : Int) + 125 + 400 * (p : Int) + (k : Int) = 125 + 400 * (p : Int) + (k : Int) by omega] at this
      exact this
    have I := ih (k + 1) (si H (a + 6) (k : Int) c) (by omega) (hE.tr (eqG.si (by unfold SK; omega))) ((gi_ne (Or.inl (by omega))).trans h10) (fun j d hj2 hd => by
      by_cases z : j = k
      · subst z
        rw [hc] at hd
        cases hd
        exact gi_at rfl rfl
      · exact (gi_ne (Or.inr (by omega))).trans (hj j d (by omega) hd))
    refine aw_iload_n dX12_take_15 rfl ?_
    refine aw_aload_n dX12_take_16 rfl ?_
    refine aw_geti' (j := 10) dX12_take_17 fX12_134 rfl (by assumption) rfl h10 ?_
    refine aw_ic_ge (tgt := 50) dX12_take_20 rfl (by omega) (by omega) (fun c20 => ?_) (fun c20 => ?_)
    · exact absurd c20 (by omega)
    · refine aw_aload_n dX12_take_23 rfl ?_
      refine aw_getr' (j := 9) dX12_take_24 fX12_25 rfl (by assumption) rfl (by assumption) ?_
      refine aw_iload_n dX12_take_27 rfl ?_
      refine aw_aload_n dX12_take_28 rfl ?_
      refine aw_getr' (j := 0) dX12_take_29 fX12_7 rfl (by assumption) rfl (by assumption) ?_
      refine aw_bipush dX12_take_32 rfl ?_
      refine aw_sipush dX12_take_34 rfl ?_
      refine aw_iload_n dX12_take_37 rfl ?_
      refine aw_imul dX12_take_38 ?_
      refine aw_iadd dX12_take_39 ?_
      refine aw_iload_n dX12_take_40 rfl ?_
      refine aw_iadd dX12_take_41 ?_
      refine aw_iald' dX12_take_42 (by assumption) (by omega) (by first | decide | omega) gc ?_
      refine aw_iast dX12_take_43 (by assumption) (by omega) (by first | decide | omega) ?_
      refine aw_iinc (k9 := 0) (ls1 := [(2, _), (0, _), (1, _)]) dX12_take_44 rfl (by decide) rfl ?_
      refine aw_goto (tgt := 15) dX12_take_47 rfl ?_
      refine aw_sub [0, 1, 2] rfl ?_
      exact I
theorem m_take {γ : GG} {h : AH} {a p : Nat} {S : St} {U : List St} {tx : List Nat} (hm : isMd h a S U tx) (hp : p < 4) (hq : S.2 p ≠ []) : Call γ mX12_take 10 0 0 [vr (some a), vi (p : Int)] h (rF (fun h' => eqG (SK a) h h' ∧ gQ (gi h' (a + 7)) (S.2 p))) := by
  obtain ⟨hka, -, -⟩ := hm.1.q
  obtain ⟨rm, km⟩ := hm.1.m
  have g0 := (hm.2.1.2 p hp).1
  rw [show (0 : Int) + 121 + (p : Int) = 121 + (p : Int) by omega] at g0
  have L := l_tk (γ := γ) hm hp hq (wQry (S.2 p)).length 0 (si h a 10 (wQry (S.2 p)).length) (by omega) (eqG.si (by unfold SK; omega)) (gi_at rfl rfl) (fun j c hj => absurd hj (by omega))
  refine Call.of (ls := [(0, vr (some a)), (1, vi (p : Int))]) vX12_take.1 (Nat.le_of_ble_eq_true rfl) rfl ?_
  refine aw_aload_n dX12_take_0 rfl ?_
  refine aw_aload_n dX12_take_1 rfl ?_
  refine aw_getr' (j := 0) dX12_take_2 fX12_7 rfl (by assumption) rfl (by assumption) ?_
  refine aw_bipush dX12_take_5 rfl ?_
  refine aw_iload_n dX12_take_7 rfl ?_
  refine aw_iadd dX12_take_8 ?_
  refine aw_iald' dX12_take_9 (by assumption) (by omega) (by first | decide | omega) g0 ?_
  refine aw_puti' (j := 10) rfl dX12_take_10 fX12_134 (by assumption) rfl ?_
  refine aw_iconst dX12_take_13 ?_
  refine aw_istore_n (ls1 := [(2, _), (0, _), (1, _)]) dX12_take_14 (by decide) rfl ?_
  refine aw_sub [0, 1, 2] rfl ?_
  exact L
def upQ (S : St) (p : Nat) (q : TQ) : St := (S.1, fun k => if k = p then q else S.2 k)
/-- what laying may write -/
def SL (a : Nat) : Nat → Int → Prop := fun b j => SO a b j ∨ b = a + 1
theorem isMd.lay {h h' : AH} {a p : Nat} {S : St} {U : List St} {tx : List Nat} {q : TQ} (hm : isMd h a S U tx) (hp : p < 4) (ho : okQ q) (hw : lnQ q) (e : eqG (SL a) h h') (e0 : gi h' (a + 1) (121 + p) = (wQry q).length) (e1 : ∀ (k : Nat) (c : Int), (wQry q)[k]? = some c → gi h' (a + 1) (125 + 400 * p + k) = c) (e2 : ∀ j : Int, j ≠ 121 + p → ¬ (125 + 400 * (p : Int) ≤ j ∧ j < 125 + 400 * (p : Int) + 400) → gi h' (a + 1) j = gi h (a + 1) j) : isMd h' a (upQ S p q) U tx := by
  obtain ⟨m1, ⟨⟨t0, t1⟩, m2⟩, m3, m4, m5, m6, m7, m8, m9, m10, m11⟩ := hm
  have ev : gi h' (a + 2) = gi h (a + 2) := by funext j; exact e.2.2.2.2 _ _ (by unfold SL SO; omega)
  have n40 := m3.1.2.1
  refine ⟨e.sh m1, ⟨⟨(e2 _ (by omega) (by omega)).trans t0, fun k hk => ?_⟩, fun k hk => ?_⟩, ⟨m3.1, fun k hk => ?_⟩, (e.2.2.2.2 _ _ (by unfold SL SO; omega)).trans m4, m5, m6, by rw [ev]; exact m7, (e.2.2.2.2 _ _ (by unfold SL SO; omega)).trans m8, m9, m10, fun k c hc => (e.2.2.2.2 _ _ (by unfold SL SO; omega)).trans (m11 k c hc)⟩
  · obtain ⟨a1, a2, a3⟩ := t1 k hk
    have hk' : k < S.1.1 := hk
    exact ⟨(e2 _ (by omega) (by omega)).trans a1, (e2 _ (by omega) (by omega)).trans a2, (e2 _ (by omega) (by omega)).trans a3⟩
  · show gWr _ 0 k (if k = p then q else S.2 k)
    by_cases z : k = p
    · subst z
      rw [if_pos rfl]
      refine ⟨?_, fun j c hc => ?_⟩
      · rw [show (0 : Int) + 121 + (k : Int) = 121 + k by omega]; exact e0
      · rw [show (0 : Int) + 125 + 400 * (k : Int) + (j : Int) = 125 + 400 * k + j by omega]; exact e1 j c hc
    · rw [if_neg z]
      obtain ⟨a1, a2⟩ := m2 k hk
      have bw := wQry_le (m3.2 k hk).1 (m3.2 k hk).2
      exact ⟨(e2 _ (by omega) (by omega)).trans a1, fun j c hc => (e2 _ (by have := lt_of_get hc; omega) (by have := lt_of_get hc; omega)).trans (a2 j c hc)⟩
  · show okQ (if k = p then q else S.2 k) ∧ lnQ (if k = p then q else S.2 k)
    by_cases z : k = p
    · rw [if_pos z]; exact ⟨ho, hw⟩
    · rw [if_neg z]; exact m3.2 k hk
theorem l_ly {γ : GG} {a p : Nat} {q : TQ} {h : AH} (hM : shM h a) (hp : p < 4) (hO : isO9 h a (wQry q)) (hl : (wQry q).length ≤ 387) (Q : AR → AH → Prop) (kk : ∀ H, eqG (fun b _ => b = a + 1) h H → (∀ (j : Nat) (c : Int), (wQry q)[j]? = some c → gi H (a + 1) (125 + 400 * p + j) = c) → (∀ j : Int, ¬ (125 + 400 * (p : Int) ≤ j ∧ j < 125 + 400 * (p : Int) + 400) → gi H (a + 1) j = gi h (a + 1) j) → Q (.inl none) H) : ∀ (m k : Nat) (H : AH), k + m = (wQry q).length → eqG (fun b _ => b = a + 1) h H → (∀ (j : Nat) (c : Int), j < k → (wQry q)[j]? = some c → gi H (a + 1) (125 + 400 * p + j) = c) → (∀ j : Int, ¬ (125 + 400 * (p : Int) ≤ j ∧ j < 125 + 400 * (p : Int) + 400) → gi H (a + 1) j = gi h (a + 1) j) → AW γ mX12_lay 6 0 0 19 [(2, vi (k : Int)), (0, vr (some a)), (1, vi (p : Int))] [] H Q := by
  intro m
  induction m with
  | zero =>
    intro k H hkm hE hj hf
    have hM1 := hE.sh hM
    obtain ⟨hka, rq, kq⟩ := hM1.q
    have g14 : gi H a 14 = ((wQry q).length : Int) := (hE.2.2.2.2 _ _ (by dsimp only; omega)).trans hO.1
    have K := kk H hE (fun j c hc => hj j c (by have := lt_of_get hc; omega) hc) hf
    refine aw_iload_n dX12_lay_19 rfl ?_
    refine aw_aload_n dX12_lay_20 rfl ?_
    refine aw_geti' (j := 14) dX12_lay_21 fX12_186 rfl (by assumption) rfl g14 ?_
    refine aw_ic_ge (tgt := 54) dX12_lay_24 rfl (by omega) (by omega) (fun c24 => ?_) (fun c24 => ?_)
    · exact aw_return dX12_lay_54 rfl (Or.inl rfl) K
    · exact absurd c24 (by omega)
  | succ m ih =>
    intro k H hkm hE hj hf
    have hM1 := hE.sh hM
    obtain ⟨hka, rq, kq⟩ := hM1.q
    obtain ⟨rm, km⟩ := hM1.m
    obtain ⟨ro, ko⟩ := hM1.o
    have g14 : gi H a 14 = ((wQry q).length : Int) := (hE.2.2.2.2 _ _ (by dsimp only; omega)).trans hO.1
    obtain ⟨c, hc⟩ : ∃ c, (wQry q)[k]? = some c := ⟨_, List.getElem?_eq_getElem (by omega)⟩
    have gc : gi H (a + 8) (k : Int) = c := (hE.2.2.2.2 _ _ (by dsimp only; omega)).trans (hO.2 k c hc)
    have I := ih (k + 1) (si H (a + 1) (125 + 400 * (p : Int) + (k : Int)) c) (by omega) (hE.tr (eqG.si rfl)) (fun j d hj2 hd => by
      by_cases z : j = k
      · subst z
        rw [hc] at hd
        cases hd
        exact gi_at rfl rfl
      · exact (gi_ne (Or.inr (by omega))).trans (hj j d (by omega) hd)) (fun j hj2 => (gi_ne (Or.inr (by omega))).trans (hf j hj2))
    refine aw_iload_n dX12_lay_19 rfl ?_
    refine aw_aload_n dX12_lay_20 rfl ?_
    refine aw_geti' (j := 14) dX12_lay_21 fX12_186 rfl (by assumption) rfl g14 ?_
    refine aw_ic_ge (tgt := 54) dX12_lay_24 rfl (by omega) (by omega) (fun c24 => ?_) (fun c24 => ?_)
    · exact absurd c24 (by omega)
    · refine aw_aload_n dX12_lay_27 rfl ?_
      refine aw_getr' (j := 0) dX12_lay_28 fX12_7 rfl (by assumption) rfl (by assumption) ?_
      refine aw_bipush dX12_lay_31 rfl ?_
      refine aw_sipush dX12_lay_33 rfl ?_
      refine aw_iload_n dX12_lay_36 rfl ?_
      refine aw_imul dX12_lay_37 ?_
      refine aw_iadd dX12_lay_38 ?_
      refine aw_iload_n dX12_lay_39 rfl ?_
      refine aw_iadd dX12_lay_40 ?_
      refine aw_aload_n dX12_lay_41 rfl ?_
      refine aw_getr' (j := 13) dX12_lay_42 fX12_31 rfl (by assumption) rfl (by assumption) ?_
      refine aw_iload_n dX12_lay_45 rfl ?_
      refine aw_iald' dX12_lay_46 (by assumption) (by omega) (by first | decide | omega) gc ?_
      refine aw_iast dX12_lay_47 (by assumption) (by omega) (by first | decide | omega) ?_
      refine aw_iinc (k9 := 0) (ls1 := [(2, _), (0, _), (1, _)]) dX12_lay_48 rfl (by decide) rfl ?_
      refine aw_goto (tgt := 19) dX12_lay_51 rfl ?_
      refine aw_sub [0, 1, 2] rfl ?_
      exact I
theorem m_lay {γ : GG} {h : AH} {a p : Nat} {S : St} {U : List St} {tx : List Nat} {q : TQ} (hm : isMd h a S U tx) (hp : p < 4) (ho : okQ q) (hw : lnQ q) (hg : gQ (gi h (a + 7)) q) : Call γ mX12_lay 6 0 0 [vr (some a), vi (p : Int)] h (rF (fun h' => eqG (SL a) h h' ∧ isMd h' a (upQ S p q) U tx)) := by
  have hl := wQry_le ho hw
  have KA := m_putAll (γ := γ) ho hm.1 (by omega) hg
  obtain ⟨H0, eH⟩ : ∃ H0, H0 = mputs a (si h a 14 0) (wQry q) := ⟨_, rfl⟩
  have hO : isO9 H0 a (wQry q) := by rw [eH]; exact isO9_of (wQry q) (gi_at rfl rfl)
  have E0 : eqG (SO a) h H0 := by rw [eH]; exact (eqG.si (Or.inl ⟨rfl, rfl⟩)).tr (eqG_mputs _ _)
  rw [← eH] at KA
  obtain ⟨hka, -, -⟩ := (E0.sh hm.1).q
  obtain ⟨rm, km⟩ := (E0.sh hm.1).m
  obtain ⟨hkh, -, -⟩ := hm.1.q
  have g14 := hO.1
  have L := l_ly (γ := γ) (a := a) (p := p) (q := q) (h := si H0 (a + 1) (121 + (p : Int)) (wQry q).length) (E0.sh hm.1) hp ⟨(gi_ne (Or.inl (by omega))).trans hO.1, fun k c hc => (gi_ne (Or.inl (by omega))).trans (hO.2 k c hc)⟩ hl (rF (fun h' => eqG (SL a) h h' ∧ isMd h' a (upQ S p q) U tx)) (fun H hE h1 h2 => by
    have E1 : eqG (SL a) h H := ((E0.mono (S' := SL a) (fun b j z => Or.inl z)).tr (eqG.si (Or.inr rfl))).tr (hE.mono (fun b j z => Or.inr z))
    have eo : ∀ j, gi H0 (a + 1) j = gi h (a + 1) j := fun j => E0.2.2.2.2 _ _ (by unfold SO; omega)
    exact ⟨rfl, E1, hm.lay hp ho hw E1 ((h2 _ (by omega)).trans (gi_at rfl rfl)) h1 (fun j j1 j2 => (h2 j j2).trans ((gi_ne (Or.inr j1)).trans (eo j)))⟩) (wQry q).length 0 _ (by omega) eqG.rf (fun j c hj => absurd hj (by omega)) (fun j _ => rfl)
  refine Call.of (ls := [(0, vr (some a)), (1, vi (p : Int))]) vX12_lay.1 (Nat.le_of_ble_eq_true rfl) rfl ?_
  refine aw_aload_n dX12_lay_0 rfl ?_
  refine aw_invV_n dX12_lay_1 vX12_putAll kX12_211 rfl (KA) ⟨_, (by exact hkh), _, _, rfl⟩ rfl rfl (by decide) (by decide) (by decide) (Nat.le_of_ble_eq_true rfl) ?_
  refine aw_aload_n dX12_lay_4 rfl ?_
  refine aw_getr' (j := 0) dX12_lay_5 fX12_7 rfl (by assumption) rfl (by assumption) ?_
  refine aw_bipush dX12_lay_8 rfl ?_
  refine aw_iload_n dX12_lay_10 rfl ?_
  refine aw_iadd dX12_lay_11 ?_
  refine aw_aload_n dX12_lay_12 rfl ?_
  refine aw_geti' (j := 14) dX12_lay_13 fX12_186 rfl (by assumption) rfl g14 ?_
  refine aw_iast dX12_lay_16 (by assumption) (by omega) (by first | decide | omega) ?_
  refine aw_iconst dX12_lay_17 ?_
  refine aw_istore_n (ls1 := [(2, _), (0, _), (1, _)]) dX12_lay_18 (by decide) rfl ?_
  refine aw_sub [0, 1, 2] rfl ?_
  exact L
