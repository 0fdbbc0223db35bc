/-! ===== Evaluator: selectFrom ===== -/
theorem gvN_lt {T : Tr} {s : TS} {v : Nat} : ∀ (n k : Nat), gvN T s v n k = true → k < tn T := by
  intro n
  induction n with
  | zero =>
    intro k hk
    simp only [gvN, psS, Bool.and_eq_true, decide_eq_true_eq] at hk
    exact hk.2.1
  | succ n ih =>
    intro k hk
    simp only [gvN, kpR, anyN, agF, Bool.or_eq_true, Bool.and_eq_true] at hk
    rcases hk with ((hk | hk) | hk) | hk
    · cases hk
    · exact ih k hk.2.1
    · exact ih k hk.2.1
    · exact ih k hk.2.1
def paS (T : Tr) : List TS → (Nat → Bool) → Nat → Bool
  | [], f => f
  | s :: r, f => paS T r (foS (fun y => gvN T s y s.2.length) f)
def seP (T : Tr) (t : TT) (v : Nat) : Nat → Bool := paS T t.2 (if t.1 = true then fun k => decide (k = 0) else fun k => decide (k = v))
def seJ (T : Tr) (q : TQ) (v n k : Nat) : Bool := anyN (fun p => match q[p]? with | none => false | some t => seP T t v k) n
theorem fo_lt {T : Tr} {s : TS} {f : Nat → Bool} {k : Nat} (h : foS (fun y => gvN T s y s.2.length) f k = true) : k < tn T := by
  obtain ⟨y, -, -, y3⟩ := anyS_iff.mp h
  exact gvN_lt _ _ y3
theorem se_s {T : Tr} {q : TQ} {v p : Nat} {t : TT} (ht : q[p]? = some t) : S9 (seJ T q v p) ||| S9 (seP T t v) = S9 (seJ T q v (p + 1)) := by
  rw [S9_or]
  refine S9_cong (fun k _ => ?_)
  unfold seJ
  simp only [anyN]
  rw [ht]
theorem i_sel {γ : GG} {e b v : Nat} {π : Nat → Nat} {ρ : Nat → Nat → Nat} {T : Tr} {q : TQ} {h : AH} {p : Nat} {u : TT} {z : Int64} {F : Nat → Bool} {Q : AR → AH → Prop} (hE : shE h e) (hQ : isQ h b π ρ q) (hq : okQ q) (hn : tn T ≤ 40) (hg : gfD h e T q q.length 0) (hu : q[p]? = some u) (kk : AW γ mX1_selectFrom 3 0 0 75 [(6, vl (S9 F)), (5, vi (p : Int)), (3, vl z), (0, vr (some e)), (1, vr (some b)), (2, vi (v : Int))] [] h Q) : ∀ (m j : Nat) (g : Nat → Bool), j + m = u.2.length → paS T (u.2.drop j) g = F → (∀ k, g k = true → k < tn T) → AW γ mX1_selectFrom 3 0 0 39 [(8, vi (j : Int)), (6, vl (S9 g)), (5, vi (p : Int)), (3, vl z), (0, vr (some e)), (1, vr (some b)), (2, vi (v : Int))] [] h Q := by
  have lk := (List.getElem?_eq_some_iff.mp hu).1
  have hl4 := hq.1
  have ou := hq.2 u (List.mem_of_getElem? hu)
  obtain ⟨⟨hk, hr, hk1, hπ, hrf, hst⟩, h0, -, hss⟩ := hQ
  have hP := hss p u hu
  have s1 := hP.1.1
  have l8 := hP.2.2.2.1
  have k0 := hE.1
  intro m
  induction m with
  | zero =>
    intro j g hj hF hlt
    rw [List.drop_eq_nil_of_le (by omega)] at hF
    have hF : g = F := hF
    rw [← hF] at kk
    refine aw_iload dX1_selectFrom_39 rfl ?_
    refine aw_aload_n dX1_selectFrom_41 rfl ?_
    refine aw_getr' (j := 1) dX1_selectFrom_42 fX1_24 rfl (by assumption) rfl (by assumption) ?_
    refine aw_iload dX1_selectFrom_45 rfl ?_
    refine aw_aald4' dX1_selectFrom_47 (by assumption) (by omega) (by first | decide | omega) (hrf p (by omega)) ?_
    refine aw_geti' (j := 1) dX1_selectFrom_48 fX1_28 rfl (by assumption) rfl hP.2.2.1 ?_
    refine aw_ic_ge (tgt := 75) dX1_selectFrom_51 rfl (by omega) (by omega) (fun c51 => ?_) (fun c51 => ?_)
    · refine aw_sub [1, 2, 3, 4, 5, 6] rfl ?_
      exact kk
    · exact absurd c51 (by omega)
  | succ m ih =>
    intro j g hj hF hlt
    obtain ⟨s, hs⟩ : ∃ s, u.2[j]? = some s := ⟨_, List.getElem?_eq_getElem (by omega)⟩
    have CR := c_rowOf (γ := γ) (h := h) (p := p) (s := j) (by omega) (by omega)
    have CF := c_follow (γ := γ) (r := (p * 8 + j) * 40) (f := g) (G := fun y => gvN T s y s.2.length) hE (by omega) (fun y _ y2 => hg p j u s hu hs (by omega) y (hlt y y2))
    have I := ih (j + 1) (foS (fun y => gvN T s y s.2.length) g) (by omega) (by
      rw [← hF]
      have : u.2.drop j = s :: u.2.drop (j + 1) := by
        rw [List.drop_eq_getElem_cons (by omega)]
        congr 1
        exact (List.getElem?_eq_some_iff.mp hs).2
      rw [this]
      rfl) (fun k h9 => fo_lt h9)
    refine aw_iload dX1_selectFrom_39 rfl ?_
    refine aw_aload_n dX1_selectFrom_41 rfl ?_
    refine aw_getr' (j := 1) dX1_selectFrom_42 fX1_24 rfl (by assumption) rfl (by assumption) ?_
    refine aw_iload dX1_selectFrom_45 rfl ?_
    refine aw_aald4' dX1_selectFrom_47 (by assumption) (by omega) (by first | decide | omega) (hrf p (by omega)) ?_
    refine aw_geti' (j := 1) dX1_selectFrom_48 fX1_28 rfl (by assumption) rfl hP.2.2.1 ?_
    refine aw_ic_ge (tgt := 75) dX1_selectFrom_51 rfl (by omega) (by omega) (fun c51 => ?_) (fun c51 => ?_)
    · exact absurd c51 (by omega)
    · refine aw_aload_n dX1_selectFrom_54 rfl ?_
      refine aw_lload dX1_selectFrom_55 rfl ?_
      refine aw_iload dX1_selectFrom_57 rfl ?_
      refine aw_iload dX1_selectFrom_59 rfl ?_
      refine aw_invS_r dX1_selectFrom_61 sX1_rowOf kX1_35 rfl (CR) rfl rfl (by decide) (by decide) (by decide) (Nat.le_of_ble_eq_true rfl) ?_
      refine aw_invV_r dX1_selectFrom_64 vX1_follow kX1_51 rfl (CF) ⟨_, (by assumption), _, _, rfl⟩ rfl rfl (by decide) (by decide) (by decide) (Nat.le_of_ble_eq_true rfl) ?_
      refine aw_lstore (ls1 := [(6, _), (8, _), (5, _), (3, _), (0, _), (1, _), (2, _)]) dX1_selectFrom_67 (by decide) rfl ?_
      refine aw_iinc (k9 := 1) (ls1 := [(8, _), (6, _), (5, _), (3, _), (0, _), (1, _), (2, _)]) dX1_selectFrom_69 rfl (by decide) rfl ?_
      refine aw_goto (tgt := 39) dX1_selectFrom_72 rfl ?_
      refine aw_sub [0, 1, 2, 3, 4, 5, 6] rfl ?_
      exact I
theorem c_selectFrom {γ : GG} {e b v : Nat} {π : Nat → Nat} {ρ : Nat → Nat → Nat} {T : Tr} {q : TQ} {h : AH} (hE : shE h e) (hQ : isQ h b π ρ q) (hq : okQ q) (hn : tn T ≤ 40) (hg : gfD h e T q q.length 0) (hv : v < tn T) : Call γ mX1_selectFrom 3 0 0 [vr (some e), vr (some b), vi (v : Int)] h (rV (vl (S9 (seJ T q v q.length))) h) := by
  have hl4 := hq.1
  have hQ9 := hQ
  obtain ⟨⟨hk, hr, hk1, hπ, hrf, hst⟩, h0, -, hss⟩ := hQ9
  have o1 : (1 : Int64) = S9 (fun k => decide (k = 0)) := (show (1 : Int64) = lN (2 ^ 0) from rfl).trans (S9_one (by omega))
  have L : ∀ (m p : Nat), p + m = q.length → AW γ mX1_selectFrom 3 0 0 5 [(5, vi (p : Int)), (3, vl (S9 (seJ T q v p))), (0, vr (some e)), (1, vr (some b)), (2, vi (v : Int))] [] h (rV (vl (S9 (seJ T q v q.length))) h) := by
    intro m
    induction m with
    | zero =>
      intro p hp
      obtain rfl : p = q.length := by omega
      refine aw_iload dX1_selectFrom_5 rfl ?_
      refine aw_aload_n dX1_selectFrom_7 rfl ?_
      refine aw_geti' (j := 0) dX1_selectFrom_8 fX1_18 rfl (by assumption) rfl h0 ?_
      refine aw_ic_ge (tgt := 86) dX1_selectFrom_11 rfl (by omega) (by omega) (fun c11 => ?_) (fun c11 => ?_)
      · refine aw_lload_n dX1_selectFrom_86 rfl ?_
        exact aw_lreturn dX1_selectFrom_87 rfl (Or.inl rfl) ⟨rfl, rfl⟩
      · exact absurd c11 (by omega)
    | succ m ih =>
      intro p hp
      obtain ⟨u, hu⟩ : ∃ u, q[p]? = some u := ⟨_, List.getElem?_eq_getElem (by omega)⟩
      have hP := hss p u hu
      have s1 := hP.1.1
      have I := ih (p + 1) (by omega)
      rw [← se_s hu] at I
      have K := i_sel (γ := γ) (v := v) (z := S9 (seJ T q v p)) (F := seP T u v) (Q := rV (vl (S9 (seJ T q v q.length))) h) hE hQ hq hn hg hu (by
        refine aw_lload_n dX1_selectFrom_75 rfl ?_
        refine aw_lload dX1_selectFrom_76 rfl ?_
        refine aw_lor dX1_selectFrom_78 ?_
        refine aw_lstore_n (ls1 := [(3, _), (6, _), (5, _), (0, _), (1, _), (2, _)]) dX1_selectFrom_79 (by decide) rfl ?_
        refine aw_iinc (k9 := 2) (ls1 := [(5, _), (3, _), (6, _), (0, _), (1, _), (2, _)]) dX1_selectFrom_80 rfl (by decide) rfl ?_
        refine aw_goto (tgt := 5) dX1_selectFrom_83 rfl ?_
        refine aw_sub [0, 1, 3, 4, 5] rfl ?_
        exact I) u.2.length 0
      by_cases z : u.1 = true
      · have K := K (fun k => decide (k = 0)) (by omega) (by unfold seP; rw [if_pos z]; rfl) (fun k h9 => by simp only [decide_eq_true_eq] at h9; omega)
        rw [← o1] at K
        have e1 : gi h (b + 2 + 18 * π p) 0 = 1 := by rw [hP.2.1, z]; rfl
        refine aw_iload dX1_selectFrom_5 rfl ?_
        refine aw_aload_n dX1_selectFrom_7 rfl ?_
        refine aw_geti' (j := 0) dX1_selectFrom_8 fX1_18 rfl (by assumption) rfl h0 ?_
        refine aw_ic_ge (tgt := 86) dX1_selectFrom_11 rfl (by omega) (by omega) (fun c11 => ?_) (fun c11 => ?_)
        · exact absurd c11 (by omega)
        · refine aw_aload_n dX1_selectFrom_14 rfl ?_
          refine aw_getr' (j := 1) dX1_selectFrom_15 fX1_24 rfl (by assumption) rfl (by assumption) ?_
          refine aw_iload dX1_selectFrom_18 rfl ?_
          refine aw_aald4' dX1_selectFrom_20 (by assumption) (by omega) (by first | decide | omega) (hrf p (by omega)) ?_
          refine aw_geti' (j := 0) dX1_selectFrom_21 fX1_47 rfl (by assumption) rfl e1 ?_
          refine aw_if_eq (tgt := 31) dX1_selectFrom_24 rfl (by omega) (fun c24 => ?_) (fun c24 => ?_)
          · exact absurd c24 (by omega)
          · refine aw_lconst (v := 1) dX1_selectFrom_27 rfl ?_
            refine aw_goto (tgt := 34) dX1_selectFrom_28 rfl ?_
            refine aw_lstore (ls1 := [(6, _), (5, _), (3, _), (0, _), (1, _), (2, _)]) dX1_selectFrom_34 (by decide) rfl ?_
            refine aw_iconst dX1_selectFrom_36 ?_
            refine aw_istore (ls1 := [(8, _), (6, _), (5, _), (3, _), (0, _), (1, _), (2, _)]) dX1_selectFrom_37 (by decide) rfl ?_
            refine aw_sub [0, 1, 2, 3, 4, 5, 6] rfl ?_
            exact K
      · have K := K (fun k => decide (k = v)) (by omega) (by unfold seP; rw [if_neg z]; rfl) (fun k h9 => by simp only [decide_eq_true_eq] at h9; omega)
        rw [← S9_one (by omega)] at K
        have e1 : gi h (b + 2 + 18 * π p) 0 = 0 := by rw [hP.2.1]; unfold bI; rw [if_neg z]
        refine aw_iload dX1_selectFrom_5 rfl ?_
        refine aw_aload_n dX1_selectFrom_7 rfl ?_
        refine aw_geti' (j := 0) dX1_selectFrom_8 fX1_18 rfl (by assumption) rfl h0 ?_
        refine aw_ic_ge (tgt := 86) dX1_selectFrom_11 rfl (by omega) (by omega) (fun c11 => ?_) (fun c11 => ?_)
        · exact absurd c11 (by omega)
        · refine aw_aload_n dX1_selectFrom_14 rfl ?_
          refine aw_getr' (j := 1) dX1_selectFrom_15 fX1_24 rfl (by assumption) rfl (by assumption) ?_
          refine aw_iload dX1_selectFrom_18 rfl ?_
          refine aw_aald4' dX1_selectFrom_20 (by assumption) (by omega) (by first | decide | omega) (hrf p (by omega)) ?_
          refine aw_geti' (j := 0) dX1_selectFrom_21 fX1_47 rfl (by assumption) rfl e1 ?_
          refine aw_if_eq (tgt := 31) dX1_selectFrom_24 rfl (by omega) (fun c24 => ?_) (fun c24 => ?_)
          · refine aw_lconst (v := 1) dX1_selectFrom_31 rfl ?_
            refine aw_iload_n dX1_selectFrom_32 rfl ?_
            refine aw_lshl (v := lN (2 ^ v)) dX1_selectFrom_33 (sh1 (by omega) rfl) ?_
            refine aw_lstore (ls1 := [(6, _), (5, _), (3, _), (0, _), (1, _), (2, _)]) dX1_selectFrom_34 (by decide) rfl ?_
            refine aw_iconst dX1_selectFrom_36 ?_
            refine aw_istore (ls1 := [(8, _), (6, _), (5, _), (3, _), (0, _), (1, _), (2, _)]) dX1_selectFrom_37 (by decide) rfl ?_
            refine aw_sub [0, 1, 2, 3, 4, 5, 6] rfl ?_
            exact K
          · exact absurd c24 (by omega)
  have L := L q.length 0 (by omega)
  have z0 : S9 (seJ T q v 0) = 0 := S9_none
  rw [z0] at L
  refine Call.of (ls := [(0, vr (some e)), (1, vr (some b)), (2, vi (v : Int))]) vX1_selectFrom.1 (Nat.le_of_ble_eq_true rfl) rfl ?_
  refine aw_lconst (v := 0) dX1_selectFrom_0 rfl ?_
  refine aw_lstore_n (ls1 := [(3, _), (0, _), (1, _), (2, _)]) dX1_selectFrom_1 (by decide) rfl ?_
  refine aw_iconst dX1_selectFrom_2 ?_
  refine aw_istore (ls1 := [(5, _), (3, _), (0, _), (1, _), (2, _)]) dX1_selectFrom_3 (by decide) rfl ?_
  refine aw_sub [0, 1, 2, 3, 4] rfl ?_
  exact L
