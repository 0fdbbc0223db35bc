/-! ===== the model: rewriteAll ===== -/
def mm9 (l : TQ) (t : TT) : Bool := l.any (fun x => t_dT x t)
theorem mm9_iff {l : TQ} {t : TT} : mm9 l t = true ↔ t ∈ l := by
  unfold mm9
  rw [List.any_eq_true]
  constructor
  · rintro ⟨x, h1, h2⟩
    rw [t_dT_iff] at h2
    subst h2
    exact h1
  · intro h
    exact ⟨t, h, (t_dT_iff t t).mpr rfl⟩
theorem mm9_eq {l m : TQ} {t : TT} (h : t ∈ l ↔ t ∈ m) : mm9 l t = mm9 m t := by
  cases e : mm9 m t with
  | true => exact mm9_iff.mpr (h.mpr (mm9_iff.mp e))
  | false =>
    cases e2 : mm9 l t with
    | false => rfl
    | true => rw [mm9_iff.mpr (h.mp (mm9_iff.mp e2))] at e; cases e
/-- the paths that are no repetition -/
def kf : TQ → TQ → TQ
  | _, [] => []
  | s, t :: r => if mm9 s t = true then kf s r else t :: kf (s ++ [t]) r
theorem kf_snoc : ∀ (r s : TQ) (x : TT), kf s (r ++ [x]) = kf s r ++ (if mm9 (s ++ r) x = true then [] else [x]) := by
  intro r
  induction r with
  | nil =>
    intro s x
    simp only [List.nil_append, kf, List.append_nil]
  | cons t r ih =>
    intro s x
    simp only [List.cons_append, kf]
    by_cases q : mm9 s t = true
    · rw [if_pos q, if_pos q, ih, mm9_eq (l := s ++ r) (m := s ++ t :: r) (t := x)]
      have := mm9_iff.mp q
      simp only [List.mem_append, List.mem_cons]
      constructor
      · rintro (h | h)
        · exact Or.inl h
        · exact Or.inr (Or.inr h)
      · rintro (h | h | h)
        · exact Or.inl h
        · subst h; exact Or.inl this
        · exact Or.inr h
    · rw [if_neg q, if_neg q, ih, List.append_assoc]
      rfl
def incN (u : Nat → Int) : Nat → (Nat → Int)
  | 0 => u
  | k + 1 => incN (inc u 9) k
theorem kf_len : ∀ (r s : TQ), (kf s r).length ≤ r.length := by
  intro r
  induction r with
  | nil => intro s; exact Nat.le_refl _
  | cons t r ih =>
    intro s
    simp only [kf]
    split
    · have := ih s; simp only [List.length_cons]; omega
    · have := ih (s ++ [t]); simp only [List.length_cons]; omega
theorem rmD_kf : ∀ (p : Nat) (l S : TQ) (u : Nat → Int), l.length = p + 1 → rmD p (l ++ S) u = (kf [] l ++ S, incN u (l.length - (kf [] l).length)) := by
  intro p
  induction p with
  | zero =>
    intro l S u hl
    match l, hl with
    | [t], _ => rfl
  | succ p ih =>
    intro l S u hl
    obtain ⟨l', x, rfl⟩ : ∃ l' x, l = l' ++ [x] := ⟨l.dropLast, l.getLast (by intro z; rw [z] at hl; cases hl), (List.dropLast_concat_getLast _).symm⟩
    have hl' : l'.length = p + 1 := by simp at hl; omega
    have ex : (l' ++ [x] ++ S)[p + 1]? = some x := by rw [List.append_assoc, List.getElem?_append_right (by omega), hl', Nat.sub_self]; rfl
    have et : (l' ++ [x] ++ S).take (p + 1) = l' := by rw [List.append_assoc, List.take_append_of_le_length (by omega), List.take_of_length_le (by omega)]
    have ee : (l' ++ [x] ++ S).eraseIdx (p + 1) = l' ++ S := by
      rw [List.append_assoc, List.eraseIdx_append_of_length_le (by omega), hl', Nat.sub_self]
      rfl
    simp only [rmD, ex, et, ee]
    rw [kf_snoc, List.nil_append]
    have kl := kf_len l' []
    by_cases q : (l'.any fun x_1 => t_dT x_1 x) = true
    · rw [if_pos q, if_pos (show mm9 l' x = true from q), ih l' S (inc u 9) hl', List.append_nil]
      congr 1
      rw [show (l' ++ [x]).length - (kf [] l').length = (l'.length - (kf [] l').length) + 1 by simp; omega]
      rfl
    · rw [if_neg q, if_neg (show ¬ mm9 l' x = true from q), List.append_assoc, ih l' ([x] ++ S) u hl', List.append_assoc]
      congr 1
      simp
def rmF : Nat → Nat → TQ → (Nat → Int) → TQ × (Nat → Int)
  | 0, _, q, u => (q, u)
  | m + 1, p, q, u => match q[p]? with
    | none => (q, u)
    | some t => if mm9 (q.take p) t = true then rmF m p (q.eraseIdx p) (inc u 9) else rmF m (p + 1) q u
theorem rmF_kf : ∀ (r s : TQ) (u : Nat → Int), rmF r.length s.length (s ++ r) u = (s ++ kf s r, incN u (r.length - (kf s r).length)) := by
  intro r
  induction r with
  | nil => intro s u; rfl
  | cons t r ih =>
    intro s u
    have ex : (s ++ t :: r)[s.length]? = some t := by rw [List.getElem?_append_right (Nat.le_refl _), Nat.sub_self]; rfl
    have et : (s ++ t :: r).take s.length = s := by rw [List.take_append_of_le_length (Nat.le_refl _), List.take_length]
    have ee : (s ++ t :: r).eraseIdx s.length = s ++ r := by
      rw [List.eraseIdx_append_of_length_le (Nat.le_refl _), Nat.sub_self]
      rfl
    simp only [List.length_cons, rmF, ex, et, ee, kf]
    by_cases q : mm9 s t = true
    · rw [if_pos q, if_pos q, ih]
      congr 1
      have := kf_len r s
      rw [show r.length + 1 - (kf s r).length = (r.length - (kf s r).length) + 1 by omega]
      rfl
    · rw [if_neg q, if_neg q]
      have := ih (s ++ [t]) u
      rw [List.append_assoc, List.length_append, List.append_assoc] at this
      rw [show s.length + 1 = s.length + [t].length from rfl]
      rw [show s ++ t :: r = s ++ ([t] ++ r) from rfl, this]
      congr 1
      rw [List.length_cons]
      congr 1
      omega
theorem rmF_rmD {q : TQ} {u : Nat → Int} (h : 1 ≤ q.length) : rmF (q.length - 1) 1 q u = rmD (q.length - 1) q u := by
  match q, h with
  | t :: r, _ =>
    have e1 := rmF_kf r [t] u
    have e2 := rmD_kf r.length (t :: r) [] u rfl
    rw [List.append_nil, List.append_nil] at e2
    have ek : kf [] (t :: r) = t :: kf [t] r := rfl
    rw [ek] at e2
    rw [show (t :: r).length - 1 = r.length from rfl, e2]
    rw [show (1 : Nat) = [t].length from rfl, show t :: r = [t] ++ r from rfl, e1]
    congr 1
    congr 1
    simp
theorem rwQ_F {q : TQ} (h : 1 ≤ q.length) : rwQ q = rmF ((runP q.length 0 q (fun _ => 0)).1.length - 1) 1 (runP q.length 0 q (fun _ => 0)).1 (runP q.length 0 q (fun _ => 0)).2 := by
  have := runP_len q.length 0 q (fun _ => 0)
  rw [rmF_rmD (by omega)]
  rfl
theorem gQ_so {h h' : AH} {a : Nat} {q : TQ} (hq : gQ (gi h (a + 7)) q) (e : eqG (SO a) h h') : gQ (gi h' (a + 7)) q := by
  rw [gi7o e]
  exact hq
theorem gQ_set {h h' : AH} {a : Nat} {q : TQ} {k : Nat} {t : TT} (hq : gQ (gi h (a + 7)) q) (ho : okQ q) (hk : k < q.length) (hP : PT h' a (1 + 1634 * (k : Int)) t) (hl : 1 ≤ t.2.length) (e : eqG (SX a (1 + 1634 * (k : Int) + 1) (1 + 1634 * (k : Int) + 1634)) h h') : gQ (gi h' (a + 7)) (q.set k t) ∧ okQ (q.set k t) := by
  refine ⟨⟨(e.2.2.2.2 _ _ (by unfold SX SW SO SQ; omega)).trans (hq.1.trans (by simp)), fun j s hs => ?_⟩, okQ_set ho ⟨hl, hP.2.1, hP.2.2⟩⟩
  rcases set_get hs with ⟨q1, q2⟩ | ⟨q1, q2⟩
  · subst q1 q2; exact hP.1
  · have o := ho.2 s (List.mem_of_getElem? q2)
    exact (hq.2 j s q2).eq o.2.1 o.2.2 (fun z z1 z2 => e.2.2.2.2 _ _ (by unfold SX SW SO SQ; omega))
theorem PT_q {h : AH} {a : Nat} {q : TQ} {k : Nat} {t : TT} (hq : gQ (gi h (a + 7)) q) (ho : okQ q) (ht : q[k]? = some t) : PT h a (1 + 1634 * (k : Int)) t := ⟨hq.2 k t ht, (ho.2 t (List.mem_of_getElem? ht)).2⟩
/-- a path taken away -/
def hRQ (h : AH) (a : Nat) (i n : Nat) : AH := si (cpI h (a + 7) (1 + 1634 * ((i : Int) + 1)) (a + 7) (1 + 1634 * (i : Int)) ((1634 * (n - i - 1) : Nat) : Int)) (a + 7) 0 ((n : Int) - 1)
theorem gQ_hRQ {h : AH} {a : Nat} {q : TQ} {i : Nat} (hg : gQ (gi h (a + 7)) q) (ho : okQ q) (hi : i < q.length) : gQ (gi (hRQ h a i q.length) (a + 7)) (q.eraseIdx i) ∧ okQ (q.eraseIdx i) ∧ eqG (SQ a 0 6537) h (hRQ h a i q.length) := by
  obtain ⟨g0, g3⟩ := hg
  have l4 := ho.1
  have el : (q.eraseIdx i).length = q.length - 1 := List.length_eraseIdx_of_lt hi
  unfold hRQ
  refine ⟨⟨(gi_at rfl rfl).trans (by rw [el]; omega), fun j p hp => ?_⟩, okQ_er ho hi, (eqG_mv (by omega) (by omega)).tr (eqG.si ⟨rfl, by omega, by omega⟩)⟩
  have lj := lt_of_get hp
  rcases er_get hp with ⟨q1, q2⟩ | ⟨q1, q2⟩
  · have o := ho.2 p (List.mem_of_getElem? q2)
    exact (g3 j p q2).eq o.2.1 o.2.2 (fun x x1 x2 => (gi_ne (Or.inr (by omega))).trans (gi_mvo (by omega)))
  · have o := ho.2 p (List.mem_of_getElem? q2)
    refine (g3 (j + 1) p q2).eq o.2.1 o.2.2 (fun x x1 x2 => (gi_ne (Or.inr (by omega))).trans ((gi_mvi (by omega) (by omega)).trans ?_))
    exact congrArg (gi h (a + 7)) (by omega)
def lnQ (q : TQ) : Prop := ∀ t ∈ q, wT t ≤ 97
theorem wPath_96 {q : TQ} {t : TT} (ho : okQ q) (hw : lnQ q) (ht : t ∈ q) : (wPath t).length ≤ 96 := by
  have := wPath_le (ho.2 t ht).1
  have := hw t ht
  omega
def rQ9 (h : AH) (a : Nat) (q : TQ) (u : Nat → Int) (h' : AH) : Prop := gQ (gi h' (a + 7)) q ∧ okQ q ∧ lnQ q ∧ eqG (SX a 0 6537) h h' ∧ uM h' a u
theorem l_ra63 {γ : GG} {h : AH} {a p : Nat} {q : TQ} {t : TT} {Q : AR → AH → Prop} (hM : shM h a) (hg : gQ (gi h (a + 7)) q) (ho : okQ q) (hw : lnQ q) (hp : p < q.length) (ht : q[p]? = some t) (kk : ∀ H, eqG (SO a) h H → AW γ mX12_rewriteAll 8 0 0 93 [(2, vi (bI (mm9 (q.take p) t))), (1, vi (p : Int)), (0, vr (some a))] [] H Q) : ∀ (m k : Nat) (H : AH), k + m = p → eqG (SO a) h H → AW γ mX12_rewriteAll 8 0 0 63 [(3, vi (k : Int)), (2, vi (bI (mm9 (q.take k) t))), (1, vi (p : Int)), (0, vr (some a))] [] H Q := by
  have l4 := ho.1
  intro m
  induction m with
  | zero =>
    intro k H hkm hE
    have K := kk H hE
    rw [show p = k by omega] at K
    refine aw_iload_n dX12_rewriteAll_63 rfl ?_
    refine aw_iload_n dX12_rewriteAll_64 rfl ?_
    refine aw_ic_ge (tgt := 93) dX12_rewriteAll_65 rfl (by omega) (by omega) (fun c65 => ?_) (fun c65 => ?_)
    · refine aw_sub [1, 2, 3] rfl ?_
      rw [show (p : Int) = (k : Int) by omega]
      exact K
    · exact absurd c65 (by omega)
  | succ m ih =>
    intro k H hkm hE
    have hM1 := hE.sh hM
    obtain ⟨hka, rq, kq⟩ := hM1.q
    have hg1 := gQ_so hg hE
    obtain ⟨x, hx⟩ : ∃ x, q[k]? = some x := ⟨_, List.getElem?_eq_getElem (by omega)⟩
    have e : mm9 (q.take (k + 1)) t = (mm9 (q.take k) t || t_dT x t) := by
      unfold mm9
      rw [take_snoc hx, List.any_append]
      simp
    have KA := m_arePathsAlike (γ := γ) (b := k) (c := p) hM1 (ho.2 x (List.mem_of_getElem? hx)) (ho.2 t (List.mem_of_getElem? ht)) (by omega) (by omega) (hg1.2 k x hx) (hg1.2 p t ht) (by
      have := wPath_96 ho hw (List.mem_of_getElem? hx)
      have := wPath_96 ho hw (List.mem_of_getElem? ht)
      omega)
    cases em : mm9 (q.take k) t with
    | true =>
      have I := ih (k + 1) H (by omega) hE
      rw [e, em] at I
      refine aw_iload_n dX12_rewriteAll_63 rfl ?_
      refine aw_iload_n dX12_rewriteAll_64 rfl ?_
      refine aw_ic_ge (tgt := 93) dX12_rewriteAll_65 rfl (by omega) (by omega) (fun c65 => ?_) (fun c65 => ?_)
      · exact absurd c65 (by omega)
      · refine aw_iload_n dX12_rewriteAll_68 rfl ?_
        refine aw_if_ne (tgt := 81) dX12_rewriteAll_69 rfl (by decide) (fun c69 => ?_) (fun c69 => ?_)
        · refine aw_iconst dX12_rewriteAll_81 ?_
          refine aw_goto (tgt := 86) dX12_rewriteAll_82 rfl ?_
          refine aw_istore_n (ls1 := [(2, _), (3, _), (1, _), (0, _)]) dX12_rewriteAll_86 (by decide) rfl ?_
          refine aw_iinc (k9 := 1) (ls1 := [(3, _), (2, _), (1, _), (0, _)]) dX12_rewriteAll_87 rfl (by decide) rfl ?_
          refine aw_goto (tgt := 63) dX12_rewriteAll_90 rfl ?_
          refine aw_sub [0, 1, 2, 3] rfl ?_
          exact I
        · exact absurd c69 (by decide)
    | false =>
      cases ed : t_dT x t with
      | true =>
        rw [ed, if_pos rfl] at KA
        refine aw_iload_n dX12_rewriteAll_63 rfl ?_
        refine aw_iload_n dX12_rewriteAll_64 rfl ?_
        refine aw_ic_ge (tgt := 93) dX12_rewriteAll_65 rfl (by omega) (by omega) (fun c65 => ?_) (fun c65 => ?_)
        · exact absurd c65 (by omega)
        · refine aw_iload_n dX12_rewriteAll_68 rfl ?_
          refine aw_if_ne (tgt := 81) dX12_rewriteAll_69 rfl (by decide) (fun c69 => ?_) (fun c69 => ?_)
          · exact absurd rfl c69
          · refine aw_aload_n dX12_rewriteAll_72 rfl ?_
            refine aw_iload_n dX12_rewriteAll_73 rfl ?_
            refine aw_iload_n dX12_rewriteAll_74 rfl ?_
            refine aw_invV_e dX12_rewriteAll_75 vX12_arePathsAlike kX12_330 rfl (KA) ⟨_, (by assumption), _, _, rfl⟩ rfl rfl (by decide) (by decide) (by decide) (Nat.le_of_ble_eq_true rfl) (fun h1 hP9 => ?_)
            have E1 := hP9
            refine aw_if_eq (tgt := 85) dX12_rewriteAll_78 rfl (by omega) (fun c78 => ?_) (fun c78 => ?_)
            · exact absurd c78 (by omega)
            · refine aw_iconst dX12_rewriteAll_81 ?_
              refine aw_goto (tgt := 86) dX12_rewriteAll_82 rfl ?_
              refine aw_istore_n (ls1 := [(2, _), (3, _), (1, _), (0, _)]) dX12_rewriteAll_86 (by decide) rfl ?_
              refine aw_iinc (k9 := 1) (ls1 := [(3, _), (2, _), (1, _), (0, _)]) dX12_rewriteAll_87 rfl (by decide) rfl ?_
              refine aw_goto (tgt := 63) dX12_rewriteAll_90 rfl ?_
              refine aw_sub [0, 1, 2, 3] rfl ?_
              have I := ih (k + 1) h1 (by omega) (hE.tr E1)
              rw [e, em, ed] at I
              exact I
      | false =>
        rw [ed, if_neg (by decide)] at KA
        refine aw_iload_n dX12_rewriteAll_63 rfl ?_
        refine aw_iload_n dX12_rewriteAll_64 rfl ?_
        refine aw_ic_ge (tgt := 93) dX12_rewriteAll_65 rfl (by omega) (by omega) (fun c65 => ?_) (fun c65 => ?_)
        · exact absurd c65 (by omega)
        · refine aw_iload_n dX12_rewriteAll_68 rfl ?_
          refine aw_if_ne (tgt := 81) dX12_rewriteAll_69 rfl (by decide) (fun c69 => ?_) (fun c69 => ?_)
          · exact absurd rfl c69
          · refine aw_aload_n dX12_rewriteAll_72 rfl ?_
            refine aw_iload_n dX12_rewriteAll_73 rfl ?_
            refine aw_iload_n dX12_rewriteAll_74 rfl ?_
            refine aw_invV_e dX12_rewriteAll_75 vX12_arePathsAlike kX12_330 rfl (KA) ⟨_, (by assumption), _, _, rfl⟩ rfl rfl (by decide) (by decide) (by decide) (Nat.le_of_ble_eq_true rfl) (fun h1 hP9 => ?_)
            have E1 := hP9
            refine aw_if_eq (tgt := 85) dX12_rewriteAll_78 rfl (by omega) (fun c78 => ?_) (fun c78 => ?_)
            · refine aw_iconst dX12_rewriteAll_85 ?_
              refine aw_istore_n (ls1 := [(2, _), (3, _), (1, _), (0, _)]) dX12_rewriteAll_86 (by decide) rfl ?_
              refine aw_iinc (k9 := 1) (ls1 := [(3, _), (2, _), (1, _), (0, _)]) dX12_rewriteAll_87 rfl (by decide) rfl ?_
              refine aw_goto (tgt := 63) dX12_rewriteAll_90 rfl ?_
              refine aw_sub [0, 1, 2, 3] rfl ?_
              have I := ih (k + 1) h1 (by omega) (hE.tr E1)
              rw [e, em, ed] at I
              exact I
            · exact absurd c78 (by omega)
theorem l_ra49 {γ : GG} {h : AH} {a : Nat} : ∀ (m p : Nat) (q : TQ) (u : Nat → Int) (H : AH), q.length ≤ p + m → p ≤ 4 → shM H a → rQ9 h a q u H → AW γ mX12_rewriteAll 8 0 0 49 [(1, vi (p : Int)), (0, vr (some a))] [] H (rF (rQ9 h a (rmF m p q u).1 (rmF m p q u).2)) := by
  intro m
  induction m with
  | zero =>
    intro p q u H hl hp4 hM hR
    obtain ⟨hka, rq, kq⟩ := hM.q
    have g0 := hR.1.1
    have l4 := hR.2.1.1
    simp only [rmF]
    refine aw_iload_n dX12_rewriteAll_49 rfl ?_
    refine aw_aload_n dX12_rewriteAll_50 rfl ?_
    refine aw_getr' (j := 12) dX12_rewriteAll_51 fX12_28 rfl (by assumption) rfl (by assumption) ?_
    refine aw_iconst dX12_rewriteAll_54 ?_
    refine aw_iald' dX12_rewriteAll_55 (by assumption) (by omega) (by first | decide | omega) g0 ?_
    refine aw_ic_ge (tgt := 155) dX12_rewriteAll_56 rfl (by omega) (by omega) (fun c56 => ?_) (fun c56 => ?_)
    · exact aw_return dX12_rewriteAll_155 rfl (Or.inl rfl) ⟨rfl, hR⟩
    · exact absurd c56 (by omega)
  | succ m ih =>
    intro p q u H hl hp4 hM hR
    obtain ⟨hka, rq, kq⟩ := hM.q
    obtain ⟨hg, ho, hw, hE, hu⟩ := hR
    have g0 := hg.1
    have l4 := ho.1
    cases ht : q[p]? with
    | none =>
      have hp := List.getElem?_eq_none_iff.mp ht
      simp only [rmF, ht]
      refine aw_iload_n dX12_rewriteAll_49 rfl ?_
      refine aw_aload_n dX12_rewriteAll_50 rfl ?_
      refine aw_getr' (j := 12) dX12_rewriteAll_51 fX12_28 rfl (by assumption) rfl (by assumption) ?_
      refine aw_iconst dX12_rewriteAll_54 ?_
      refine aw_iald' dX12_rewriteAll_55 (by assumption) (by omega) (by first | decide | omega) g0 ?_
      refine aw_ic_ge (tgt := 155) dX12_rewriteAll_56 rfl (by omega) (by omega) (fun c56 => ?_) (fun c56 => ?_)
      · exact aw_return dX12_rewriteAll_155 rfl (Or.inl rfl) ⟨rfl, hg, ho, hw, hE, hu⟩
      · exact absurd c56 (by omega)
    | some t =>
      have hp := lt_of_get ht
      simp only [rmF, ht]
      have K : ∀ H1, eqG (SO a) H H1 → AW γ mX12_rewriteAll 8 0 0 93 [(2, vi (bI (mm9 (q.take p) t))), (1, vi (p : Int)), (0, vr (some a))] [] H1 (rF (rQ9 h a (if mm9 (q.take p) t = true then rmF m p (q.eraseIdx p) (inc u 9) else rmF m (p + 1) q u).1 (if mm9 (q.take p) t = true then rmF m p (q.eraseIdx p) (inc u 9) else rmF m (p + 1) q u).2)) := by
        intro H1 E1
        have hM1 := E1.sh hM
        obtain ⟨hka, rq, kq⟩ := hM1.q
        obtain ⟨ru, ku⟩ := hM1.u
        have hg1 := gQ_so hg E1
        have g0 := hg1.1
        have hu1 : uM H1 a u := hu.eq E1 (fun j q => by unfold SO at q; omega)
        have hE1 : eqG (SX a 0 6537) h H1 := hE.tr (E1.mono SX_o)
        cases em : mm9 (q.take p) t with
        | false =>
          rw [if_neg (by decide)]
          have I := ih (p + 1) q u H1 (by omega) (by omega) hM1 ⟨hg1, ho, hw, hE1, hu1⟩
          refine aw_iload_n dX12_rewriteAll_93 rfl ?_
          refine aw_if_eq (tgt := 149) dX12_rewriteAll_94 rfl (by decide) (fun c94 => ?_) (fun c94 => ?_)
          · refine aw_iinc (k9 := 1) (ls1 := [(1, _), (2, _), (0, _)]) dX12_rewriteAll_149 rfl (by decide) rfl ?_
            refine aw_goto (tgt := 49) dX12_rewriteAll_152 rfl ?_
            refine aw_sub [0, 2] rfl ?_
            exact I
          · exact absurd rfl c94
        | true =>
          rw [if_pos rfl]
          obtain ⟨G, O, E⟩ := gQ_hRQ hg1 ho hp
          have A1 := m_pathAt (γ := γ) (h := H1) (k := (p : Int) + 1)
          have A2 := m_pathAt (γ := γ) (h := H1) (k := (p : Int))
          have KM := m_move (γ := γ) (F := 1 + 1634 * ((p : Int) + 1)) (T := 1 + 1634 * (p : Int)) (n := 1634 * (q.length - p - 1)) hM1 (by omega) (by omega)
          have en : 1634 * ((q.length : Int) - (p : Int) - 1) = ((1634 * (q.length - p - 1) : Nat) : Int) := by omega
          have u9 : gi (hRQ H1 a p q.length) (a + 17) 9 = gi H1 (a + 17) 9 := E.2.2.2.2 _ _ (by unfold SQ; omega)
          have G2 : gQ (gi (si (hRQ H1 a p q.length) (a + 17) 9 (gi H1 (a + 17) 9 + 1)) (a + 7)) (q.eraseIdx p) := by
            rw [show gi (si (hRQ H1 a p q.length) (a + 17) 9 (gi H1 (a + 17) 9 + 1)) (a + 7) = gi (hRQ H1 a p q.length) (a + 7) by funext k; exact gi_ne (Or.inl (by omega))]
            exact G
          have U2 : uM (si (hRQ H1 a p q.length) (a + 17) 9 (gi H1 (a + 17) 9 + 1)) a (inc u 9) := by
            have := (hu1.eq E (fun j q => by unfold SQ at q; omega)).ic (n := 9) (by omega)
            rw [show ((9 : Nat) : Int) = 9 from rfl, u9] at this
            exact this
          have I := ih p (q.eraseIdx p) (inc u 9) (si (hRQ H1 a p q.length) (a + 17) 9 (gi H1 (a + 17) 9 + 1)) (by rw [List.length_eraseIdx_of_lt hp]; omega) hp4 (E.sh hM1) ⟨G2, O, fun x hx => hw x (List.mem_of_mem_eraseIdx hx), (hE1.tr (E.mono (SX_q (by omega) (by omega)))).tr (eqG.si (Or.inr rfl)), U2⟩
          refine aw_iload_n dX12_rewriteAll_93 rfl ?_
          refine aw_if_eq (tgt := 149) dX12_rewriteAll_94 rfl (by decide) (fun c94 => ?_) (fun c94 => ?_)
          · exact absurd c94 (by decide)
          · refine aw_aload_n dX12_rewriteAll_97 rfl ?_
            refine aw_iload_n dX12_rewriteAll_98 rfl ?_
            refine aw_iconst dX12_rewriteAll_99 ?_
            refine aw_iadd dX12_rewriteAll_100 ?_
            refine aw_invS_r dX12_rewriteAll_101 sX12_pathAt kX12_180 rfl (A1) rfl rfl (by decide) (by decide) (by decide) (Nat.le_of_ble_eq_true rfl) ?_
            refine aw_iload_n dX12_rewriteAll_104 rfl ?_
            refine aw_invS_r dX12_rewriteAll_105 sX12_pathAt kX12_180 rfl (A2) rfl rfl (by decide) (by decide) (by decide) (Nat.le_of_ble_eq_true rfl) ?_
            refine aw_sipush dX12_rewriteAll_108 rfl ?_
            refine aw_aload_n dX12_rewriteAll_111 rfl ?_
            refine aw_getr' (j := 12) dX12_rewriteAll_112 fX12_28 rfl (by assumption) rfl (by assumption) ?_
            refine aw_iconst dX12_rewriteAll_115 ?_
            refine aw_iald' dX12_rewriteAll_116 (by assumption) (by omega) (by first | decide | omega) g0 ?_
            refine aw_iload_n dX12_rewriteAll_117 rfl ?_
            refine aw_isub dX12_rewriteAll_118 ?_
            refine aw_iconst dX12_rewriteAll_119 ?_
            refine aw_isub dX12_rewriteAll_120 ?_
            refine aw_imul dX12_rewriteAll_121 ?_
            rw [en]
            refine aw_invV_n dX12_rewriteAll_122 vX12_move kX12_278 rfl (KM) ⟨_, (by assumption), _, _, rfl⟩ rfl rfl (by decide) (by decide) (by decide) (Nat.le_of_ble_eq_true rfl) ?_
            refine aw_aload_n dX12_rewriteAll_125 rfl ?_
            refine aw_getr' (j := 12) dX12_rewriteAll_126 fX12_28 rfl (by assumption) rfl (by assumption) ?_
            refine aw_iconst dX12_rewriteAll_129 ?_
            refine aw_dup2 dX12_rewriteAll_130 rfl rfl ?_
            refine aw_iald' dX12_rewriteAll_131 (by assumption) (by omega) (by first | decide | omega) ((gi_mvo (by omega)).trans g0) ?_
            refine aw_iconst dX12_rewriteAll_132 ?_
            refine aw_isub dX12_rewriteAll_133 ?_
            refine aw_iast dX12_rewriteAll_134 (by assumption) (by omega) (by first | decide | omega) ?_
            refine aw_aload_n dX12_rewriteAll_135 rfl ?_
            refine aw_getr' (j := 24) dX12_rewriteAll_136 fX12_59 rfl (by assumption) rfl (by assumption) ?_
            refine aw_bipush dX12_rewriteAll_139 rfl ?_
            refine aw_dup2 dX12_rewriteAll_141 rfl rfl ?_
            refine aw_iald' dX12_rewriteAll_142 (by assumption) (by omega) (by first | decide | omega) u9 ?_
            refine aw_iconst dX12_rewriteAll_143 ?_
            refine aw_iadd dX12_rewriteAll_144 ?_
            refine aw_iast dX12_rewriteAll_145 (by assumption) (by omega) (by first | decide | omega) ?_
            refine aw_goto (tgt := 152) dX12_rewriteAll_146 rfl ?_
            refine aw_goto (tgt := 49) dX12_rewriteAll_152 rfl ?_
            refine aw_sub [1, 2] rfl ?_
            exact I
      have L := l_ra63 (γ := γ) hM hg ho hw hp ht K p 0 H (by omega) eqG.rf
      rw [List.take_zero] at L
      refine aw_iload_n dX12_rewriteAll_49 rfl ?_
      refine aw_aload_n dX12_rewriteAll_50 rfl ?_
      refine aw_getr' (j := 12) dX12_rewriteAll_51 fX12_28 rfl (by assumption) rfl (by assumption) ?_
      refine aw_iconst dX12_rewriteAll_54 ?_
      refine aw_iald' dX12_rewriteAll_55 (by assumption) (by omega) (by first | decide | omega) g0 ?_
      refine aw_ic_ge (tgt := 155) dX12_rewriteAll_56 rfl (by omega) (by omega) (fun c56 => ?_) (fun c56 => ?_)
      · exact absurd c56 (by omega)
      · refine aw_iconst dX12_rewriteAll_59 ?_
        refine aw_istore_n (ls1 := [(2, _), (1, _), (0, _)]) dX12_rewriteAll_60 (by decide) rfl ?_
        refine aw_iconst dX12_rewriteAll_61 ?_
        refine aw_istore_n (ls1 := [(3, _), (2, _), (1, _), (0, _)]) dX12_rewriteAll_62 (by decide) rfl ?_
        refine aw_sub [0, 1, 2, 3] rfl ?_
        exact L
theorem l_ra23 {γ : GG} {h : AH} {a : Nat} {Q : AR → AH → Prop} : ∀ (m k : Nat) (q : TQ) (u : Nat → Int) (H : AH), k + m = q.length → shM H a → rQ9 h a q u H → (∀ H', shM H' a → rQ9 h a (runP m k q u).1 (runP m k q u).2 H' → AW γ mX12_rewriteAll 8 0 0 47 [(0, vr (some a))] [] H' Q) → AW γ mX12_rewriteAll 8 0 0 23 [(1, vi (k : Int)), (0, vr (some a))] [] H Q := by
  intro m
  induction m with
  | zero =>
    intro k q u H hl hM hR kk
    obtain ⟨hka, rq, kq⟩ := hM.q
    have g0 := hR.1.1
    have l4 := hR.2.1.1
    refine aw_iload_n dX12_rewriteAll_23 rfl ?_
    refine aw_aload_n dX12_rewriteAll_24 rfl ?_
    refine aw_getr' (j := 12) dX12_rewriteAll_25 fX12_28 rfl (by assumption) rfl (by assumption) ?_
    refine aw_iconst dX12_rewriteAll_28 ?_
    refine aw_iald' dX12_rewriteAll_29 (by assumption) (by omega) (by first | decide | omega) g0 ?_
    refine aw_ic_ge (tgt := 47) dX12_rewriteAll_30 rfl (by omega) (by omega) (fun c30 => ?_) (fun c30 => ?_)
    · refine aw_sub [1] rfl ?_
      exact kk H hM hR
    · exact absurd c30 (by omega)
  | succ m ih =>
    intro k q u H hl hM hR kk
    obtain ⟨hka, rq, kq⟩ := hM.q
    obtain ⟨hg, ho, hw, hE, hu⟩ := hR
    have g0 := hg.1
    have l4 := ho.1
    obtain ⟨t, ht⟩ : ∃ t, q[k]? = some t := ⟨_, List.getElem?_eq_getElem (by omega)⟩
    simp only [runP, ht] at kk
    have A1 := m_pathAt (γ := γ) (h := H) (k := (k : Int))
    have K := m_rewritePath (γ := γ) hM (by omega) (PT_q hg ho ht) (ho.2 t (List.mem_of_getElem? ht)).1 (hw t (List.mem_of_getElem? ht)) hu
    refine aw_iload_n dX12_rewriteAll_23 rfl ?_
    refine aw_aload_n dX12_rewriteAll_24 rfl ?_
    refine aw_getr' (j := 12) dX12_rewriteAll_25 fX12_28 rfl (by assumption) rfl (by assumption) ?_
    refine aw_iconst dX12_rewriteAll_28 ?_
    refine aw_iald' dX12_rewriteAll_29 (by assumption) (by omega) (by first | decide | omega) g0 ?_
    refine aw_ic_ge (tgt := 47) dX12_rewriteAll_30 rfl (by omega) (by omega) (fun c30 => ?_) (fun c30 => ?_)
    · exact absurd c30 (by omega)
    · refine aw_aload_n dX12_rewriteAll_33 rfl ?_
      refine aw_iload_n dX12_rewriteAll_34 rfl ?_
      refine aw_invS_r dX12_rewriteAll_35 sX12_pathAt kX12_180 rfl (A1) rfl rfl (by decide) (by decide) (by decide) (Nat.le_of_ble_eq_true rfl) ?_
      refine aw_invV_f dX12_rewriteAll_38 vX12_rewritePath kX12_327 rfl (K) ⟨_, (by assumption), _, _, rfl⟩ rfl rfl (by decide) (by decide) (by decide) (Nat.le_of_ble_eq_true rfl) (fun h1 hP9 => ?_)
      obtain ⟨P1, L1, E1, U1⟩ := hP9
      refine aw_iinc (k9 := 0) (ls1 := [(1, _), (0, _)]) dX12_rewriteAll_41 rfl (by decide) rfl ?_
      refine aw_goto (tgt := 23) dX12_rewriteAll_44 rfl ?_
      obtain ⟨G, O⟩ := gQ_set hg ho (by omega) P1 L1 E1
      refine aw_sub [0, 1] rfl ?_
      exact ih (k + 1) (q.set k (rwT t)) (addU (rwC t) u) h1 (by rw [List.length_set]; omega) (E1.sh hM) ⟨G, O, mem_set9 hw (by have := hw t (List.mem_of_getElem? ht); have := wT_rwT t; omega), hE.tr (E1.mono (SX.mono (by omega) (by omega))), U1⟩ kk
theorem l_ra2 {γ : GG} {h : AH} {a : Nat} {Q : AR → AH → Prop} (hM : shM h a) (kk : ∀ H, eqG (SX a 0 0) h H → gi H (a + 7) = gi h (a + 7) → uM H a (fun _ => 0) → AW γ mX12_rewriteAll 8 0 0 21 [(0, vr (some a))] [] H Q) : ∀ (m k : Nat) (H : AH), k + m = 10 → eqG (SX a 0 0) h H → gi H (a + 7) = gi h (a + 7) → (∀ j : Nat, j < k → gi H (a + 17) j = 0) → AW γ mX12_rewriteAll 8 0 0 2 [(1, vi (k : Int)), (0, vr (some a))] [] H Q := by
  intro m
  induction m with
  | zero =>
    intro k H hkm hE h7 hj
    obtain ⟨hka, rq, kq⟩ := (hE.sh hM).q
    refine aw_iload_n dX12_rewriteAll_2 rfl ?_
    refine aw_bipush dX12_rewriteAll_3 rfl ?_
    refine aw_ic_ge (tgt := 21) dX12_rewriteAll_5 rfl (by omega) (by omega) (fun c5 => ?_) (fun c5 => ?_)
    · refine aw_sub [1] rfl ?_
      exact kk H hE h7 (fun j j1 j2 => hj j (by omega))
    · exact absurd c5 (by omega)
  | succ m ih =>
    intro k H hkm hE h7 hj
    obtain ⟨hka, rq, kq⟩ := (hE.sh hM).q
    obtain ⟨ru, ku⟩ := (hE.sh hM).u
    have I := ih (k + 1) (si H (a + 17) (k : Int) 0) (by omega) (hE.tr (eqG.si (Or.inr rfl))) (by rw [← h7]; funext x; exact gi_ne (Or.inl (by omega))) (fun j hj2 => by
      by_cases z : j = k
      · exact gi_at rfl (by omega)
      · exact (gi_ne (Or.inr (by omega))).trans (hj j (by omega)))
    refine aw_iload_n dX12_rewriteAll_2 rfl ?_
    refine aw_bipush dX12_rewriteAll_3 rfl ?_
    refine aw_ic_ge (tgt := 21) dX12_rewriteAll_5 rfl (by omega) (by omega) (fun c5 => ?_) (fun c5 => ?_)
    · exact absurd c5 (by omega)
    · refine aw_aload_n dX12_rewriteAll_8 rfl ?_
      refine aw_getr' (j := 24) dX12_rewriteAll_9 fX12_59 rfl (by assumption) rfl (by assumption) ?_
      refine aw_iload_n dX12_rewriteAll_12 rfl ?_
      refine aw_iconst dX12_rewriteAll_13 ?_
      refine aw_iast dX12_rewriteAll_14 (by assumption) (by omega) (by first | decide | omega) ?_
      refine aw_iinc (k9 := 0) (ls1 := [(1, _), (0, _)]) dX12_rewriteAll_15 rfl (by decide) rfl ?_
      refine aw_goto (tgt := 2) dX12_rewriteAll_18 rfl ?_
      refine aw_sub [0, 1] rfl ?_
      exact I
theorem m_rewriteAll {γ : GG} {h : AH} {a : Nat} {q : TQ} (hM : shM h a) (hg : gQ (gi h (a + 7)) q) (ho : okQ q) (hw : lnQ q) (hl : 1 ≤ q.length) : Call γ mX12_rewriteAll 8 0 0 [vr (some a)] h (rF (rQ9 h a (rwQ q).1 (rwQ q).2)) := by
  have rl := runP_len q.length 0 q (fun _ => 0)
  rw [rwQ_F hl]
  have L := l_ra2 (γ := γ) (Q := rF (rQ9 h a (rmF ((runP q.length 0 q (fun _ => 0)).1.length - 1) 1 (runP q.length 0 q (fun _ => 0)).1 (runP q.length 0 q (fun _ => 0)).2).1 (rmF ((runP q.length 0 q (fun _ => 0)).1.length - 1) 1 (runP q.length 0 q (fun _ => 0)).1 (runP q.length 0 q (fun _ => 0)).2).2)) hM (fun H E1 h7 hu => by
    have hM1 := E1.sh hM
    have L2 := l_ra23 (γ := γ) (h := h) (a := a) (Q := rF (rQ9 h a (rmF ((runP q.length 0 q (fun _ => 0)).1.length - 1) 1 (runP q.length 0 q (fun _ => 0)).1 (runP q.length 0 q (fun _ => 0)).2).1 (rmF ((runP q.length 0 q (fun _ => 0)).1.length - 1) 1 (runP q.length 0 q (fun _ => 0)).1 (runP q.length 0 q (fun _ => 0)).2).2)) q.length 0 q (fun _ => 0) H (by omega) hM1 ⟨by rw [h7]; exact hg, ho, hw, E1.mono (SX.mono (by omega) (by omega)), hu⟩ (fun H' hM' hR' => by
      have L3 := l_ra49 (γ := γ) (h := h) (a := a) ((runP q.length 0 q (fun _ => 0)).1.length - 1) 1 _ _ H' (by omega) (by decide) hM' hR'
      refine aw_iconst dX12_rewriteAll_47 ?_
      refine aw_istore_n (ls1 := [(1, _), (0, _)]) dX12_rewriteAll_48 (by decide) rfl ?_
      refine aw_sub [0, 1] rfl ?_
      exact L3)
    refine aw_iconst dX12_rewriteAll_21 ?_
    refine aw_istore_n (ls1 := [(1, _), (0, _)]) dX12_rewriteAll_22 (by decide) rfl ?_
    refine aw_sub [0, 1] rfl ?_
    exact L2) 10 0 h (by omega) eqG.rf rfl (fun j hj => absurd hj (by omega))
  refine Call.of (ls := [(0, vr (some a))]) vX12_rewriteAll.1 (Nat.le_of_ble_eq_true rfl) rfl ?_
  refine aw_iconst dX12_rewriteAll_0 ?_
  refine aw_istore_n (ls1 := [(1, _), (0, _)]) dX12_rewriteAll_1 (by decide) rfl ?_
  refine aw_sub [0, 1] rfl ?_
  exact L
