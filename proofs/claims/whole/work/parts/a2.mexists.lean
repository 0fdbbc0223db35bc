/-! ===== the model: exists, holdsAtom ===== -/
def fwS (T : Tr) : (Nat → Bool) → List (Int × Int) → Nat → Bool
  | f, [] => f
  | f, x :: r => fwS T (fun u => stS T f x.1 x.2 (tn T) u) r
theorem fw_ex {T : Tr} (hn : tn T ≤ 40) : ∀ (l : List (Int × Int)) (f : Nat → Bool), anyN (fwS T f l) (tn T) = anyN (fun j => f j && exS T l j) (tn T) := by
  intro l
  induction l with
  | nil =>
    intro f
    refine anyN_cong (fun k hk => ?_)
    show f k = (f k && psS T 8 k)
    unfold psS
    rw [decide_eq_true hk, decide_eq_true rfl]
    simp
  | cons x r ih =>
    intro f
    show anyN (fwS T (fun u => stS T f x.1 x.2 (tn T) u) r) (tn T) = _
    rw [ih]
    refine bool_ext ?_
    rw [anyN_iff, anyN_iff]
    constructor
    · rintro ⟨j, j1, j2⟩
      unfold stS at j2
      rw [Bool.and_eq_true, Bool.and_eq_true, anyN_iff] at j2
      obtain ⟨⟨⟨i, i1, i2⟩, j3⟩, j4⟩ := j2
      rw [Bool.and_eq_true] at i2
      refine ⟨i, i1, ?_⟩
      rw [Bool.and_eq_true]
      refine ⟨i2.1, ?_⟩
      show (decide (i < tn T) && anyS (alS T x.1 i) (fun k => exS T r k && psS T x.2 k)) = true
      rw [decide_eq_true i1, Bool.true_and, anyS_iff]
      exact ⟨j, by omega, i2.2, by rw [j4, j3]; rfl⟩
    · rintro ⟨i, i1, i2⟩
      rw [Bool.and_eq_true] at i2
      obtain ⟨i2, i3⟩ := i2
      have i3 : (decide (i < tn T) && anyS (alS T x.1 i) (fun k => exS T r k && psS T x.2 k)) = true := i3
      rw [decide_eq_true i1, Bool.true_and, anyS_iff] at i3
      obtain ⟨j, j1, j2, j3⟩ := i3
      rw [Bool.and_eq_true] at j3
      have j4 : j < tn T := by
        have := j3.2
        unfold psS at this
        rw [Bool.and_eq_true] at this
        exact of_decide_eq_true this.1
      refine ⟨j, j4, ?_⟩
      unfold stS
      rw [Bool.and_eq_true, Bool.and_eq_true, anyN_iff]
      exact ⟨⟨⟨i, i1, by rw [i2, j2]; rfl⟩, j3.2⟩, j3.1⟩
theorem fw_one {T : Tr} (hn : tn T ≤ 40) {v : Nat} (hv : v < tn T) (l : List (Int × Int)) : anyN (fwS T (fun k => decide (k = v)) l) (tn T) = exS T l v := by
  rw [fw_ex hn]
  refine bool_ext ?_
  rw [anyN_iff]
  constructor
  · rintro ⟨k, k1, k2⟩
    rw [Bool.and_eq_true] at k2
    have := of_decide_eq_true k2.1
    rw [this] at k2
    exact k2.2
  · intro q
    exact ⟨v, hv, by rw [decide_eq_true rfl, q]; rfl⟩
/-- whether an atom holds for a node at a position -/
def haC (T : Tr) (c : TC) (v : Nat) (p z : Int) : Bool := if c.2.1 = 0 then decide (p = c.2.2.1) else if c.2.1 = 1 then decide (p = z) else if c.2.1 = 2 then decide (tvl T v = c.2.2.1) else exS T c.2.2.2 v
theorem q_k {S : Nat → Int → Prop} {h H : AH} {a : Nat} (e : eqG S h H) (hs : ∀ j, ¬ S (a + 7) j) : gi H (a + 7) = gi h (a + 7) := by
  funext j
  exact e.2.2.2.2 _ _ (hs j)
theorem SXt_7 {a : Nat} : ∀ j, ¬ SXt a (a + 7) j := fun j => by unfold SXt SI; omega
theorem l_ex2 {γ : GG} {a v : Nat} {b : Int} {l : List (Int × Int)} {T : Tr} {h : AH} (hM : shM h a) (hT : gTr (gi h (a + 1)) 0 T) (ho : okTr T) (hv : v < tn T) (hb : 0 ≤ b ∧ b + 7 ≤ 6537) (hl : l.length ≤ 3) (hok : ∀ x ∈ l, okT x) (g3 : gi h (a + 7) (b + 3) = l.length) (gl9 : ∀ (k : Nat) (x : Int × Int), l[k]? = some x → gi h (a + 7) (b + 4 + k) = 10 * x.1 + x.2) : ∀ (r : List (Int × Int)) (s : Nat) (H : AH) (f : Nat → Bool) (y : Bool), l.drop s = r → s ≤ l.length → eqG (SXt a) h H → isBo H (a + 10) f (tn T) → AW γ mX12_exists 6 0 0 39 [(4, vi (s : Int)), (3, vi (bI y)), (0, vr (some a)), (1, vi b), (2, vi (v : Int))] [] H (rE (vi (bI (if r = [] then y else anyN (fwS T f r) (tn T)))) (eqG (SXt a) h)) := by
  have n40 := ho.o.2.1
  intro r
  induction r with
  | nil =>
    intro s H f y hd hs hE hF
    have bT : bI true = 1 := rfl
    have bF : bI false = 0 := rfl
    have hM1 := hE.sh hM
    have hT1 := tr_k hT hE SXt_1
    obtain ⟨hka, rq, kq⟩ := hM1.q
    obtain ⟨rm, km⟩ := hM1.m
    obtain ⟨rf, kf⟩ := hM1.f9
    have g0 : gi H (a + 1) 0 = (tn T : Int) := hT1.1
    have g3' : gi H (a + 7) (b + 3) = l.length := by rw [q_k hE SXt_7]; exact g3
    have e9 : s = l.length := by
      have := congrArg List.length hd
      rw [List.length_drop, List.length_nil] at this
      omega
    rw [if_pos rfl]
    refine aw_iload dX12_exists_39 rfl ?_
    refine aw_aload_n dX12_exists_41 rfl ?_
    refine aw_getr' (j := 12) dX12_exists_42 fX12_28 rfl (by assumption) rfl (by assumption) ?_
    refine aw_iload_n dX12_exists_45 rfl ?_
    refine aw_iconst dX12_exists_46 ?_
    refine aw_iadd dX12_exists_47 ?_
    refine aw_iald' dX12_exists_48 (by assumption) (by omega) (by first | decide | omega) g3' ?_
    refine aw_ic_ge (tgt := 74) dX12_exists_49 rfl (by omega) (by omega) (fun c49 => ?_) (fun c49 => ?_)
    · refine aw_iload_n dX12_exists_74 rfl ?_
      exact aw_zreturn dX12_exists_75 rfl (bI01 _) (Or.inl rfl) ⟨rfl, hE⟩
    · exact absurd c49 (by omega)
  | cons x r ih =>
    intro s H f y hd hs hE hF
    have bT : bI true = 1 := rfl
    have bF : bI false = 0 := rfl
    have hM1 := hE.sh hM
    have hT1 := tr_k hT hE SXt_1
    obtain ⟨hka, rq, kq⟩ := hM1.q
    obtain ⟨rm, km⟩ := hM1.m
    obtain ⟨rf, kf⟩ := hM1.f9
    have g0 : gi H (a + 1) 0 = (tn T : Int) := hT1.1
    have g3' : gi H (a + 7) (b + 3) = l.length := by rw [q_k hE SXt_7]; exact g3
    have e9 : s < l.length := by
      have := congrArg List.length hd
      rw [List.length_drop, List.length_cons] at this
      omega
    have hx : l[s]? = some x := by
      have := congrArg (fun q => q[0]?) hd
      simpa [List.getElem?_drop] using this
    have hr : l.drop (s + 1) = r := by
      have := congrArg (fun q => q.drop 1) hd
      simpa [List.drop_drop, Nat.add_comm] using this
    have gx : gi H (a + 7) (b + 4 + (s : Int)) = 10 * x.1 + x.2 := by rw [q_k hE SXt_7]; exact gl9 s x hx
    have ox := hok x (List.mem_of_getElem? hx)
    obtain ⟨x1, x2⟩ := x
    obtain ⟨o1, o2, o3, o4⟩ := ox
    dsimp only at o1 o2 o3 o4 gx
    obtain ⟨ax, rfl⟩ := Int.eq_ofNat_of_zero_le o1
    have KG := m_goesShort (γ := γ) (z := 10 * (ax : Int) + x2) hM1 hT1 ho ⟨o3, o4⟩ (by omega) rfl hF
    rw [if_neg (by simp)]
    have I := fun H1 (F1 : isBo H1 (a + 10) (fun u => stS T f ax x2 (tn T) u) (tn T)) (E1 : eqG (SXt a) H H1) => ih (s + 1) H1 _ (anyN (stS T f ax x2 (tn T)) (tn T)) hr (by omega) (hE.tr E1) F1
    have e : (if r = [] then anyN (stS T f ax x2 (tn T)) (tn T) else anyN (fwS T (fun u => stS T f ax x2 (tn T) u) r) (tn T)) = anyN (fwS T f (((ax : Int), x2) :: r)) (tn T) := by
      by_cases q : r = []
      · rw [if_pos q, q]; rfl
      · rw [if_neg q]; rfl
    rw [e] at I
    refine aw_iload dX12_exists_39 rfl ?_
    refine aw_aload_n dX12_exists_41 rfl ?_
    refine aw_getr' (j := 12) dX12_exists_42 fX12_28 rfl (by assumption) rfl (by assumption) ?_
    refine aw_iload_n dX12_exists_45 rfl ?_
    refine aw_iconst dX12_exists_46 ?_
    refine aw_iadd dX12_exists_47 ?_
    refine aw_iald' dX12_exists_48 (by assumption) (by omega) (by first | decide | omega) g3' ?_
    refine aw_ic_ge (tgt := 74) dX12_exists_49 rfl (by omega) (by omega) (fun c49 => ?_) (fun c49 => ?_)
    · exact absurd c49 (by omega)
    · refine aw_aload_n dX12_exists_52 rfl ?_
      refine aw_aload_n dX12_exists_53 rfl ?_
      refine aw_getr' (j := 12) dX12_exists_54 fX12_28 rfl (by assumption) rfl (by assumption) ?_
      refine aw_iload_n dX12_exists_57 rfl ?_
      refine aw_iconst dX12_exists_58 ?_
      refine aw_iadd dX12_exists_59 ?_
      refine aw_iload dX12_exists_60 rfl ?_
      refine aw_iadd dX12_exists_62 ?_
      refine aw_iald' dX12_exists_63 (by assumption) (by omega) (by first | decide | omega) gx ?_
      refine aw_invV_e dX12_exists_64 vX12_goesShort kX12_241 rfl (KG) ⟨_, (by assumption), _, _, rfl⟩ rfl rfl (by decide) (by decide) (by decide) (Nat.le_of_ble_eq_true rfl) (fun H1 hP9 => ?_)
      obtain ⟨F1, E1⟩ := hP9
      refine aw_istore_n (ls1 := [(3, _), (4, _), (0, _), (1, _), (2, _)]) dX12_exists_67 (by decide) rfl ?_
      refine aw_iinc (k9 := 1) (ls1 := [(4, _), (3, _), (0, _), (1, _), (2, _)]) dX12_exists_68 rfl (by decide) rfl ?_
      refine aw_goto (tgt := 39) dX12_exists_71 rfl ?_
      refine aw_sub [0, 1, 2, 3, 4] rfl ?_
      exact I H1 F1 E1
theorem l_ex1 {γ : GG} {a v : Nat} {b : Int} {l : List (Int × Int)} {T : Tr} {h : AH} (hM : shM h a) (hT : gTr (gi h (a + 1)) 0 T) (ho : okTr T) (hv : v < tn T) (hb : 0 ≤ b ∧ b + 7 ≤ 6537) (hl : l.length ≤ 3) (hok : ∀ x ∈ l, okT x) (g3 : gi h (a + 7) (b + 3) = l.length) (gl9 : ∀ (k : Nat) (x : Int × Int), l[k]? = some x → gi h (a + 7) (b + 4 + k) = 10 * x.1 + x.2) : ∀ (m k : Nat) (H : AH), k + m = tn T → eqG (SXt a) h H → isBo H (a + 10) (fun k => decide (k = v)) k → AW γ mX12_exists 6 0 0 2 [(3, vi (k : Int)), (0, vr (some a)), (1, vi b), (2, vi (v : Int))] [] H (rE (vi (bI (if l = [] then true else exS T l v))) (eqG (SXt a) h)) := by
  have n40 := ho.o.2.1
  intro m
  induction m with
  | zero =>
    intro k H hk hE hB
    obtain rfl : k = tn T := by omega
    have bT : bI true = 1 := rfl
    have bF : bI false = 0 := rfl
    have hM1 := hE.sh hM
    have hT1 := tr_k hT hE SXt_1
    obtain ⟨hka, rq, kq⟩ := hM1.q
    obtain ⟨rm, km⟩ := hM1.m
    obtain ⟨rf, kf⟩ := hM1.f9
    have g0 : gi H (a + 1) 0 = (tn T : Int) := hT1.1
    have L := l_ex2 (γ := γ) hM hT ho hv hb hl hok g3 gl9 l 0 H (fun k => decide (k = v)) true rfl (Nat.zero_le _) hE hB
    rw [fw_one n40 hv] at L
    refine aw_iload_n dX12_exists_2 rfl ?_
    refine aw_aload_n dX12_exists_3 rfl ?_
    refine aw_getr' (j := 0) dX12_exists_4 fX12_7 rfl (by assumption) rfl (by assumption) ?_
    refine aw_iconst dX12_exists_7 ?_
    refine aw_iald' dX12_exists_8 (by assumption) (by omega) (by first | decide | omega) g0 ?_
    refine aw_ic_ge (tgt := 34) dX12_exists_9 rfl (by omega) (by omega) (fun c9 => ?_) (fun c9 => ?_)
    · refine aw_iconst dX12_exists_34 ?_
      refine aw_istore_n (ls1 := [(3, _), (0, _), (1, _), (2, _)]) dX12_exists_35 (by decide) rfl ?_
      refine aw_iconst dX12_exists_36 ?_
      refine aw_istore (ls1 := [(4, _), (3, _), (0, _), (1, _), (2, _)]) dX12_exists_37 (by decide) rfl ?_
      refine aw_sub [0, 1, 2, 3, 4] rfl ?_
      exact L
    · exact absurd c9 (by omega)
  | succ m ih =>
    intro k H hk hE hB
    have bT : bI true = 1 := rfl
    have bF : bI false = 0 := rfl
    have hM1 := hE.sh hM
    have hT1 := tr_k hT hE SXt_1
    obtain ⟨hka, rq, kq⟩ := hM1.q
    obtain ⟨rm, km⟩ := hM1.m
    obtain ⟨rf, kf⟩ := hM1.f9
    have g0 : gi H (a + 1) 0 = (tn T : Int) := hT1.1
    have I := ih (k + 1) (si H (a + 10) (k : Int) (bI (decide (k = v)))) (by omega) (hE.tr (eqG.si (Or.inr (Or.inl rfl)))) (fun j hj => by
      by_cases z : j = k
      · subst z; exact gi_at rfl rfl
      · exact (gi_ne (Or.inr (by omega))).trans (hB j (by omega)))
    by_cases q : k = v
    · rw [decide_eq_true q] at I
      refine aw_iload_n dX12_exists_2 rfl ?_
      refine aw_aload_n dX12_exists_3 rfl ?_
      refine aw_getr' (j := 0) dX12_exists_4 fX12_7 rfl (by assumption) rfl (by assumption) ?_
      refine aw_iconst dX12_exists_7 ?_
      refine aw_iald' dX12_exists_8 (by assumption) (by omega) (by first | decide | omega) g0 ?_
      refine aw_ic_ge (tgt := 34) dX12_exists_9 rfl (by omega) (by omega) (fun c9 => ?_) (fun c9 => ?_)
      · exact absurd c9 (by omega)
      · refine aw_aload_n dX12_exists_12 rfl ?_
        refine aw_getr' (j := 16) dX12_exists_13 fX12_37 rfl (by assumption) rfl (by assumption) ?_
        refine aw_iload_n dX12_exists_16 rfl ?_
        refine aw_iload_n dX12_exists_17 rfl ?_
        refine aw_iload_n dX12_exists_18 rfl ?_
        refine aw_ic_ne (tgt := 26) dX12_exists_19 rfl (by omega) (by omega) (fun c19 => ?_) (fun c19 => ?_)
        · exact absurd c19 (by omega)
        · refine aw_iconst dX12_exists_22 ?_
          refine aw_goto (tgt := 27) dX12_exists_23 rfl ?_
          refine aw_zast dX12_exists_27 (by assumption) (by omega) (by first | decide | omega) (Or.inr rfl) ?_
          refine aw_iinc (k9 := 0) (ls1 := [(3, _), (0, _), (1, _), (2, _)]) dX12_exists_28 rfl (by decide) rfl ?_
          refine aw_goto (tgt := 2) dX12_exists_31 rfl ?_
          refine aw_sub [0, 1, 2, 3] rfl ?_
          exact I
    · rw [decide_eq_false q] at I
      refine aw_iload_n dX12_exists_2 rfl ?_
      refine aw_aload_n dX12_exists_3 rfl ?_
      refine aw_getr' (j := 0) dX12_exists_4 fX12_7 rfl (by assumption) rfl (by assumption) ?_
      refine aw_iconst dX12_exists_7 ?_
      refine aw_iald' dX12_exists_8 (by assumption) (by omega) (by first | decide | omega) g0 ?_
      refine aw_ic_ge (tgt := 34) dX12_exists_9 rfl (by omega) (by omega) (fun c9 => ?_) (fun c9 => ?_)
      · exact absurd c9 (by omega)
      · refine aw_aload_n dX12_exists_12 rfl ?_
        refine aw_getr' (j := 16) dX12_exists_13 fX12_37 rfl (by assumption) rfl (by assumption) ?_
        refine aw_iload_n dX12_exists_16 rfl ?_
        refine aw_iload_n dX12_exists_17 rfl ?_
        refine aw_iload_n dX12_exists_18 rfl ?_
        refine aw_ic_ne (tgt := 26) dX12_exists_19 rfl (by omega) (by omega) (fun c19 => ?_) (fun c19 => ?_)
        · refine aw_iconst dX12_exists_26 ?_
          refine aw_zast dX12_exists_27 (by assumption) (by omega) (by first | decide | omega) (Or.inl rfl) ?_
          refine aw_iinc (k9 := 0) (ls1 := [(3, _), (0, _), (1, _), (2, _)]) dX12_exists_28 rfl (by decide) rfl ?_
          refine aw_goto (tgt := 2) dX12_exists_31 rfl ?_
          refine aw_sub [0, 1, 2, 3] rfl ?_
          exact I
        · exact absurd c19 (by omega)
theorem m_exists {γ : GG} {h : AH} {a v : Nat} {b : Int} {l : List (Int × Int)} {T : Tr} (hM : shM h a) (hT : gTr (gi h (a + 1)) 0 T) (ho : okTr T) (hv : v < tn T) (hb : 0 ≤ b ∧ b + 7 ≤ 6537) (hl : l.length ≤ 3) (hok : ∀ x ∈ l, okT x) (g3 : gi h (a + 7) (b + 3) = l.length) (gl9 : ∀ (k : Nat) (x : Int × Int), l[k]? = some x → gi h (a + 7) (b + 4 + k) = 10 * x.1 + x.2) (h1 : 1 ≤ l.length) : Call γ mX12_exists 6 0 0 [vr (some a), vi b, vi (v : Int)] h (rE (vi (bI (exS T l v))) (eqG (SXt a) h)) := by
  have L := l_ex1 (γ := γ) hM hT ho hv hb hl hok g3 gl9 (tn T) 0 h (by omega) eqG.rf (fun j hj => absurd hj (by omega))
  rw [if_neg (by intro z; rw [z] at h1; exact absurd h1 (by decide))] at L
  refine Call.of (ls := [(0, vr (some a)), (1, vi b), (2, vi (v : Int))]) vX12_exists.1 (Nat.le_of_ble_eq_true rfl) rfl ?_
  refine aw_iconst dX12_exists_0 ?_
  refine aw_istore_n (ls1 := [(3, _), (0, _), (1, _), (2, _)]) dX12_exists_1 (by decide) rfl ?_
  refine aw_sub [0, 1, 2, 3] rfl ?_
  exact L
theorem m_holdsAtom {γ : GG} {h : AH} {a v : Nat} {b p z : Int} {c : TC} {T : Tr} (hM : shM h a) (hT : gTr (gi h (a + 1)) 0 T) (ho : okTr T) (hv : v < tn T) (hb : 0 ≤ b ∧ b + 7 ≤ 6537) (hc : okC c) (hg : gC (gi h (a + 7)) b c) (hp : 0 ≤ p ∧ p ≤ 100) (hz : 0 ≤ z ∧ z ≤ 100) : Call γ mX12_holdsAtom 7 0 0 [vr (some a), vi b, vi (v : Int), vi p, vi z] h (rE (vi (bI (haC T c v p z))) (eqG (SXt a) h)) := by
  obtain ⟨hka, rq, kq⟩ := hM.q
  have n40 := ho.o.2.1
  obtain ⟨y, kn, dg, l⟩ := c
  obtain ⟨g0, g1, g2, g3, g4⟩ := hg
  dsimp only at g0 g1 g2 g3 g4
  unfold haC
  dsimp only
  rcases hc with ⟨e1, e2, e3, -⟩ | ⟨e1, -, -⟩ | ⟨e1, e2, e3, -⟩ | ⟨e1, -, e2, e3, e4⟩
  · dsimp only at e1 e2 e3
    rw [e1] at g1
    rw [if_pos e1]
    by_cases q : p = dg
    · rw [decide_eq_true q]
      refine Call.of (ls := [(0, vr (some a)), (1, vi b), (2, vi (v : Int)), (3, vi p), (4, vi z)]) vX12_holdsAtom.1 (Nat.le_of_ble_eq_true rfl) rfl ?_
      refine aw_aload_n dX12_holdsAtom_0 rfl ?_
      refine aw_getr' (j := 12) dX12_holdsAtom_1 fX12_28 rfl (by assumption) rfl (by assumption) ?_
      refine aw_iload_n dX12_holdsAtom_4 rfl ?_
      refine aw_iconst dX12_holdsAtom_5 ?_
      refine aw_iadd dX12_holdsAtom_6 ?_
      refine aw_iald' dX12_holdsAtom_7 (by assumption) (by omega) (by first | decide | omega) g1 ?_
      refine aw_tableIn (off := 28) (tgt := 36) dX12_holdsAtom_8 (by omega) (by decide) (by decide) rfl rfl ?_
      refine aw_iload_n dX12_holdsAtom_36 rfl ?_
      refine aw_aload_n dX12_holdsAtom_37 rfl ?_
      refine aw_getr' (j := 12) dX12_holdsAtom_38 fX12_28 rfl (by assumption) rfl (by assumption) ?_
      refine aw_iload_n dX12_holdsAtom_41 rfl ?_
      refine aw_iconst dX12_holdsAtom_42 ?_
      refine aw_iadd dX12_holdsAtom_43 ?_
      refine aw_iald' dX12_holdsAtom_44 (by assumption) (by omega) (by first | decide | omega) g2 ?_
      refine aw_ic_ne (tgt := 52) dX12_holdsAtom_45 rfl (by omega) (by omega) (fun c45 => ?_) (fun c45 => ?_)
      · exact absurd c45 (by omega)
      · refine aw_iconst dX12_holdsAtom_48 ?_
        refine aw_goto (tgt := 53) dX12_holdsAtom_49 rfl ?_
        exact aw_zreturn dX12_holdsAtom_53 rfl (by omega) (Or.inl rfl) ⟨rfl, eqG.rf⟩
    · rw [decide_eq_false q]
      refine Call.of (ls := [(0, vr (some a)), (1, vi b), (2, vi (v : Int)), (3, vi p), (4, vi z)]) vX12_holdsAtom.1 (Nat.le_of_ble_eq_true rfl) rfl ?_
      refine aw_aload_n dX12_holdsAtom_0 rfl ?_
      refine aw_getr' (j := 12) dX12_holdsAtom_1 fX12_28 rfl (by assumption) rfl (by assumption) ?_
      refine aw_iload_n dX12_holdsAtom_4 rfl ?_
      refine aw_iconst dX12_holdsAtom_5 ?_
      refine aw_iadd dX12_holdsAtom_6 ?_
      refine aw_iald' dX12_holdsAtom_7 (by assumption) (by omega) (by first | decide | omega) g1 ?_
      refine aw_tableIn (off := 28) (tgt := 36) dX12_holdsAtom_8 (by omega) (by decide) (by decide) rfl rfl ?_
      refine aw_iload_n dX12_holdsAtom_36 rfl ?_
      refine aw_aload_n dX12_holdsAtom_37 rfl ?_
      refine aw_getr' (j := 12) dX12_holdsAtom_38 fX12_28 rfl (by assumption) rfl (by assumption) ?_
      refine aw_iload_n dX12_holdsAtom_41 rfl ?_
      refine aw_iconst dX12_holdsAtom_42 ?_
      refine aw_iadd dX12_holdsAtom_43 ?_
      refine aw_iald' dX12_holdsAtom_44 (by assumption) (by omega) (by first | decide | omega) g2 ?_
      refine aw_ic_ne (tgt := 52) dX12_holdsAtom_45 rfl (by omega) (by omega) (fun c45 => ?_) (fun c45 => ?_)
      · refine aw_iconst dX12_holdsAtom_52 ?_
        exact aw_zreturn dX12_holdsAtom_53 rfl (by omega) (Or.inl rfl) ⟨rfl, eqG.rf⟩
      · exact absurd c45 (by omega)
  · dsimp only at e1
    rw [e1] at g1
    rw [if_neg (by omega), if_pos e1]
    by_cases q : p = z
    · rw [decide_eq_true q]
      refine Call.of (ls := [(0, vr (some a)), (1, vi b), (2, vi (v : Int)), (3, vi p), (4, vi z)]) vX12_holdsAtom.1 (Nat.le_of_ble_eq_true rfl) rfl ?_
      refine aw_aload_n dX12_holdsAtom_0 rfl ?_
      refine aw_getr' (j := 12) dX12_holdsAtom_1 fX12_28 rfl (by assumption) rfl (by assumption) ?_
      refine aw_iload_n dX12_holdsAtom_4 rfl ?_
      refine aw_iconst dX12_holdsAtom_5 ?_
      refine aw_iadd dX12_holdsAtom_6 ?_
      refine aw_iald' dX12_holdsAtom_7 (by assumption) (by omega) (by first | decide | omega) g1 ?_
      refine aw_tableIn (off := 46) (tgt := 54) dX12_holdsAtom_8 (by omega) (by decide) (by decide) rfl rfl ?_
      refine aw_iload_n dX12_holdsAtom_54 rfl ?_
      refine aw_iload dX12_holdsAtom_55 rfl ?_
      refine aw_ic_ne (tgt := 64) dX12_holdsAtom_57 rfl (by omega) (by omega) (fun c57 => ?_) (fun c57 => ?_)
      · exact absurd c57 (by omega)
      · refine aw_iconst dX12_holdsAtom_60 ?_
        refine aw_goto (tgt := 65) dX12_holdsAtom_61 rfl ?_
        exact aw_zreturn dX12_holdsAtom_65 rfl (by omega) (Or.inl rfl) ⟨rfl, eqG.rf⟩
    · rw [decide_eq_false q]
      refine Call.of (ls := [(0, vr (some a)), (1, vi b), (2, vi (v : Int)), (3, vi p), (4, vi z)]) vX12_holdsAtom.1 (Nat.le_of_ble_eq_true rfl) rfl ?_
      refine aw_aload_n dX12_holdsAtom_0 rfl ?_
      refine aw_getr' (j := 12) dX12_holdsAtom_1 fX12_28 rfl (by assumption) rfl (by assumption) ?_
      refine aw_iload_n dX12_holdsAtom_4 rfl ?_
      refine aw_iconst dX12_holdsAtom_5 ?_
      refine aw_iadd dX12_holdsAtom_6 ?_
      refine aw_iald' dX12_holdsAtom_7 (by assumption) (by omega) (by first | decide | omega) g1 ?_
      refine aw_tableIn (off := 46) (tgt := 54) dX12_holdsAtom_8 (by omega) (by decide) (by decide) rfl rfl ?_
      refine aw_iload_n dX12_holdsAtom_54 rfl ?_
      refine aw_iload dX12_holdsAtom_55 rfl ?_
      refine aw_ic_ne (tgt := 64) dX12_holdsAtom_57 rfl (by omega) (by omega) (fun c57 => ?_) (fun c57 => ?_)
      · refine aw_iconst dX12_holdsAtom_64 ?_
        exact aw_zreturn dX12_holdsAtom_65 rfl (by omega) (Or.inl rfl) ⟨rfl, eqG.rf⟩
      · exact absurd c57 (by omega)
  · dsimp only at e1 e2 e3
    rw [e1] at g1
    rw [if_neg (by omega), if_neg (by omega), if_pos e1]
    have KV := m_valueOf (γ := γ) (h := h) (n := (v : Int)) hM (by omega)
    rw [(gTr_c hT hv).2.1] at KV
    have rv9 := ho.o.2.2.1 v hv
    by_cases q : tvl T v = dg
    · rw [decide_eq_true q]
      refine Call.of (ls := [(0, vr (some a)), (1, vi b), (2, vi (v : Int)), (3, vi p), (4, vi z)]) vX12_holdsAtom.1 (Nat.le_of_ble_eq_true rfl) rfl ?_
      refine aw_aload_n dX12_holdsAtom_0 rfl ?_
      refine aw_getr' (j := 12) dX12_holdsAtom_1 fX12_28 rfl (by assumption) rfl (by assumption) ?_
      refine aw_iload_n dX12_holdsAtom_4 rfl ?_
      refine aw_iconst dX12_holdsAtom_5 ?_
      refine aw_iadd dX12_holdsAtom_6 ?_
      refine aw_iald' dX12_holdsAtom_7 (by assumption) (by omega) (by first | decide | omega) g1 ?_
      refine aw_tableIn (off := 58) (tgt := 66) dX12_holdsAtom_8 (by omega) (by decide) (by decide) rfl rfl ?_
      refine aw_aload_n dX12_holdsAtom_66 rfl ?_
      refine aw_iload_n dX12_holdsAtom_67 rfl ?_
      refine aw_invV_r dX12_holdsAtom_68 vX12_valueOf kX12_108 rfl (KV) ⟨_, (by assumption), _, _, rfl⟩ rfl rfl (by decide) (by decide) (by decide) (Nat.le_of_ble_eq_true rfl) ?_
      refine aw_aload_n dX12_holdsAtom_71 rfl ?_
      refine aw_getr' (j := 12) dX12_holdsAtom_72 fX12_28 rfl (by assumption) rfl (by assumption) ?_
      refine aw_iload_n dX12_holdsAtom_75 rfl ?_
      refine aw_iconst dX12_holdsAtom_76 ?_
      refine aw_iadd dX12_holdsAtom_77 ?_
      refine aw_iald' dX12_holdsAtom_78 (by assumption) (by omega) (by first | decide | omega) g2 ?_
      refine aw_ic_ne (tgt := 86) dX12_holdsAtom_79 rfl (by omega) (by omega) (fun c79 => ?_) (fun c79 => ?_)
      · exact absurd c79 (by omega)
      · refine aw_iconst dX12_holdsAtom_82 ?_
        refine aw_goto (tgt := 87) dX12_holdsAtom_83 rfl ?_
        exact aw_zreturn dX12_holdsAtom_87 rfl (by omega) (Or.inl rfl) ⟨rfl, eqG.rf⟩
    · rw [decide_eq_false q]
      refine Call.of (ls := [(0, vr (some a)), (1, vi b), (2, vi (v : Int)), (3, vi p), (4, vi z)]) vX12_holdsAtom.1 (Nat.le_of_ble_eq_true rfl) rfl ?_
      refine aw_aload_n dX12_holdsAtom_0 rfl ?_
      refine aw_getr' (j := 12) dX12_holdsAtom_1 fX12_28 rfl (by assumption) rfl (by assumption) ?_
      refine aw_iload_n dX12_holdsAtom_4 rfl ?_
      refine aw_iconst dX12_holdsAtom_5 ?_
      refine aw_iadd dX12_holdsAtom_6 ?_
      refine aw_iald' dX12_holdsAtom_7 (by assumption) (by omega) (by first | decide | omega) g1 ?_
      refine aw_tableIn (off := 58) (tgt := 66) dX12_holdsAtom_8 (by omega) (by decide) (by decide) rfl rfl ?_
      refine aw_aload_n dX12_holdsAtom_66 rfl ?_
      refine aw_iload_n dX12_holdsAtom_67 rfl ?_
      refine aw_invV_r dX12_holdsAtom_68 vX12_valueOf kX12_108 rfl (KV) ⟨_, (by assumption), _, _, rfl⟩ rfl rfl (by decide) (by decide) (by decide) (Nat.le_of_ble_eq_true rfl) ?_
      refine aw_aload_n dX12_holdsAtom_71 rfl ?_
      refine aw_getr' (j := 12) dX12_holdsAtom_72 fX12_28 rfl (by assumption) rfl (by assumption) ?_
      refine aw_iload_n dX12_holdsAtom_75 rfl ?_
      refine aw_iconst dX12_holdsAtom_76 ?_
      refine aw_iadd dX12_holdsAtom_77 ?_
      refine aw_iald' dX12_holdsAtom_78 (by assumption) (by omega) (by first | decide | omega) g2 ?_
      refine aw_ic_ne (tgt := 86) dX12_holdsAtom_79 rfl (by omega) (by omega) (fun c79 => ?_) (fun c79 => ?_)
      · refine aw_iconst dX12_holdsAtom_86 ?_
        exact aw_zreturn dX12_holdsAtom_87 rfl (by omega) (Or.inl rfl) ⟨rfl, eqG.rf⟩
      · exact absurd c79 (by omega)
  · dsimp only at e1 e2 e3 e4
    rw [e1] at g1
    rw [if_neg (by omega), if_neg (by omega), if_neg (by omega)]
    have KX := m_exists (γ := γ) hM hT ho hv hb e3 e4 g3 g4 e2
    refine Call.of (ls := [(0, vr (some a)), (1, vi b), (2, vi (v : Int)), (3, vi p), (4, vi z)]) vX12_holdsAtom.1 (Nat.le_of_ble_eq_true rfl) rfl ?_
    refine aw_aload_n dX12_holdsAtom_0 rfl ?_
    refine aw_getr' (j := 12) dX12_holdsAtom_1 fX12_28 rfl (by assumption) rfl (by assumption) ?_
    refine aw_iload_n dX12_holdsAtom_4 rfl ?_
    refine aw_iconst dX12_holdsAtom_5 ?_
    refine aw_iadd dX12_holdsAtom_6 ?_
    refine aw_iald' dX12_holdsAtom_7 (by assumption) (by omega) (by first | decide | omega) g1 ?_
    refine aw_tableOut (tgt := 88) dX12_holdsAtom_8 (by omega) (Or.inr (by decide)) rfl ?_
    refine aw_aload_n dX12_holdsAtom_88 rfl ?_
    refine aw_iload_n dX12_holdsAtom_89 rfl ?_
    refine aw_iload_n dX12_holdsAtom_90 rfl ?_
    refine aw_invV_e dX12_holdsAtom_91 vX12_exists kX12_247 rfl (KX) ⟨_, (by assumption), _, _, rfl⟩ rfl rfl (by decide) (by decide) (by decide) (Nat.le_of_ble_eq_true rfl) (fun H1 hP9 => ?_)
    have E1 := hP9
    exact aw_zreturn dX12_holdsAtom_94 rfl (bI01 _) (Or.inl rfl) ⟨rfl, E1⟩
