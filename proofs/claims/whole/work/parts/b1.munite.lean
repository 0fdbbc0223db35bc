/-! ===== the model: unite ===== -/
def opUni (F : FS) (p r s : Int) : Int × Int × FS :=
  if ¬ ((0 ≤ p ∧ p ≤ 3) ∧ (0 ≤ r ∧ r ≤ 3) ∧ 0 ≤ s ∧ s ≤ 3) then (1, 0, F) else if F.1.2 r.toNat = [] ∨ F.1.2 s.toNat = [] then (2, 0, F) else if 4 < (F.1.2 r.toNat).length + (F.1.2 s.toNat).length then (2, 0, F) else (0, ((F.1.2 r.toNat).length : Int) + ((F.1.2 s.toNat).length : Int), keepF F (upQ F.1 p.toNat (F.1.2 r.toNat ++ F.1.2 s.toNat)))
theorem wQry_app {q r : TQ} (hq : q ≠ []) (hr : r ≠ []) : wQry (q ++ r) = wQry q ++ 124 :: wQry r := by
  unfold wQry
  match q, r, hq, hr with
  | x :: q, y :: r, _, _ => simp [jn]
theorem okQ_app {q r : TQ} (hq : okQ q) (hr : okQ r) (hl : q.length + r.length ≤ 4) : okQ (q ++ r) := ⟨by rw [List.length_append]; exact hl, fun t ht => (List.mem_append.mp ht).elim (hq.2 t) (hr.2 t)⟩
theorem lnQ_app {q r : TQ} (hq : lnQ q) (hr : lnQ r) : lnQ (q ++ r) := fun t ht => (List.mem_append.mp ht).elim (hq t) (hr t)
theorem mputs_snoc (a : Nat) (h : AH) (l : List Int) (c : Int) : mputs a h (l ++ [c]) = mput a (mputs a h l) c := by
  unfold mputs
  rw [List.foldl_append]
  rfl
theorem l_un1 {γ : GG} {a u : Nat} {n p r s : Int} {h : AH} {q : TQ} {P : List Int} {Q : AR → AH → Prop} (hM : shM h a) (hu : u < 4) (hv : r = (u : Int)) (h0 : gi h a 14 = 0) (g1 : gi h (a + 1) (121 + (u : Int)) = (wQry q).length) (g2 : ∀ (k : Nat) (c : Int), (wQry q)[k]? = some c → gi h (a + 1) (125 + 400 * (u : Int) + k) = c) (hl : P.length ≤ 500) (hw : (wQry q).length ≤ 387) (kk : AW γ mX12_unite 11 0 0 148 [(4, vi n), (0, vr (some a)), (1, vi p), (2, vi r), (3, vi s)] [] (mputs a h (P ++ wQry q)) Q) : ∀ (t : List Int) (k : Nat), (wQry q).drop k = t → k ≤ (wQry q).length → AW γ mX12_unite 11 0 0 108 [(5, vi (k : Int)), (4, vi n), (0, vr (some a)), (1, vi p), (2, vi r), (3, vi s)] [] (mputs a h (P ++ (wQry q).take k)) Q := by
  subst hv
  intro t
  induction t with
  | nil =>
    intro k hd hk
    have e9 := drop_nil hd
    obtain rfl : k = (wQry q).length := by omega
    rw [List.take_length]
    have E : eqG (SO a) h (mputs a h (P ++ wQry q)) := eqG_mputs _ _
    have hM1 := E.sh hM
    obtain ⟨hka, -, -⟩ := hM1.q
    obtain ⟨rm, km⟩ := hM1.m
    have g1' := (E.2.2.2.2 (a + 1) (121 + (u : Int)) (by unfold SO; omega)).trans g1
    refine aw_iload dX12_unite_108 rfl ?_
    refine aw_aload_n dX12_unite_110 rfl ?_
    refine aw_getr' (j := 0) dX12_unite_111 fX12_7 rfl (by assumption) rfl (by assumption) ?_
    refine aw_bipush dX12_unite_114 rfl ?_
    refine aw_iload_n dX12_unite_116 rfl ?_
    refine aw_iadd dX12_unite_117 ?_
    refine aw_iald' dX12_unite_118 (by assumption) (by omega) (by first | decide | omega) g1' ?_
    refine aw_ic_ge (tgt := 148) dX12_unite_119 rfl (by omega) (by omega) (fun c119 => ?_) (fun c119 => ?_)
    · refine aw_sub [1, 2, 3, 4, 5] rfl ?_
      exact kk
    · exact absurd c119 (by omega)
  | cons c t ih =>
    intro k hd hk
    obtain ⟨e9, hc, hr⟩ := drop_cons hd
    have E : eqG (SO a) h (mputs a h (P ++ (wQry q).take k)) := eqG_mputs _ _
    have hM1 := E.sh hM
    obtain ⟨hka, -, -⟩ := hM1.q
    obtain ⟨rm, km⟩ := hM1.m
    have g1' := (E.2.2.2.2 (a + 1) (121 + (u : Int)) (by unfold SO; omega)).trans g1
    have g2' := (E.2.2.2.2 (a + 1) (125 + 400 * (u : Int) + k) (by unfold SO; omega)).trans (g2 k c hc)
    have O := (isO9_of (a := a) (P ++ (wQry q).take k) h0).1
    rw [List.length_append, List.length_take] at O
    have KP := m_put (γ := γ) (v := c) hM1 (by omega)
    have I := ih (k + 1) hr (by omega)
    have e : P ++ (wQry q).take (k + 1) = (P ++ (wQry q).take k) ++ [c] := by rw [List.take_add_one, hc, List.append_assoc]; rfl
    rw [e, mputs_snoc] at I
    refine aw_iload dX12_unite_108 rfl ?_
    refine aw_aload_n dX12_unite_110 rfl ?_
    refine aw_getr' (j := 0) dX12_unite_111 fX12_7 rfl (by assumption) rfl (by assumption) ?_
    refine aw_bipush dX12_unite_114 rfl ?_
    refine aw_iload_n dX12_unite_116 rfl ?_
    refine aw_iadd dX12_unite_117 ?_
    refine aw_iald' dX12_unite_118 (by assumption) (by omega) (by first | decide | omega) g1' ?_
    refine aw_ic_ge (tgt := 148) dX12_unite_119 rfl (by omega) (by omega) (fun c119 => ?_) (fun c119 => ?_)
    · exact absurd c119 (by omega)
    · refine aw_aload_n dX12_unite_122 rfl ?_
      refine aw_aload_n dX12_unite_123 rfl ?_
      refine aw_getr' (j := 0) dX12_unite_124 fX12_7 rfl (by assumption) rfl (by assumption) ?_
      refine aw_bipush dX12_unite_127 rfl ?_
      refine aw_sipush dX12_unite_129 rfl ?_
      refine aw_iload_n dX12_unite_132 rfl ?_
      refine aw_imul dX12_unite_133 ?_
      refine aw_iadd dX12_unite_134 ?_
      refine aw_iload dX12_unite_135 rfl ?_
      refine aw_iadd dX12_unite_137 ?_
      refine aw_iald' dX12_unite_138 (by assumption) (by omega) (by first | decide | omega) g2' ?_
      refine aw_invV_n dX12_unite_139 vX12_put kX12_192 rfl (KP) ⟨_, (by assumption), _, _, rfl⟩ rfl rfl (by decide) (by decide) (by decide) (Nat.le_of_ble_eq_true rfl) ?_
      refine aw_iinc (k9 := 0) (ls1 := [(5, _), (4, _), (0, _), (1, _), (2, _), (3, _)]) dX12_unite_142 rfl (by decide) rfl ?_
      refine aw_goto (tgt := 108) dX12_unite_145 rfl ?_
      refine aw_sub [0, 1, 2, 3, 4, 5] rfl ?_
      exact I
theorem l_un2 {γ : GG} {a u : Nat} {n p r s : Int} {h : AH} {q : TQ} {P : List Int} {Q : AR → AH → Prop} (hM : shM h a) (hu : u < 4) (hv : s = (u : Int)) (h0 : gi h a 14 = 0) (g1 : gi h (a + 1) (121 + (u : Int)) = (wQry q).length) (g2 : ∀ (k : Nat) (c : Int), (wQry q)[k]? = some c → gi h (a + 1) (125 + 400 * (u : Int) + k) = c) (hl : P.length ≤ 500) (hw : (wQry q).length ≤ 387) (kk : AW γ mX12_unite 11 0 0 197 [(4, vi n), (0, vr (some a)), (1, vi p), (2, vi r), (3, vi s)] [] (mputs a h (P ++ wQry q)) Q) : ∀ (t : List Int) (k : Nat), (wQry q).drop k = t → k ≤ (wQry q).length → AW γ mX12_unite 11 0 0 157 [(5, vi (k : Int)), (4, vi n), (0, vr (some a)), (1, vi p), (2, vi r), (3, vi s)] [] (mputs a h (P ++ (wQry q).take k)) Q := by
  subst hv
  intro t
  induction t with
  | nil =>
    intro k hd hk
    have e9 := drop_nil hd
    obtain rfl : k = (wQry q).length := by omega
    rw [List.take_length]
    have E : eqG (SO a) h (mputs a h (P ++ wQry q)) := eqG_mputs _ _
    have hM1 := E.sh hM
    obtain ⟨hka, -, -⟩ := hM1.q
    obtain ⟨rm, km⟩ := hM1.m
    have g1' := (E.2.2.2.2 (a + 1) (121 + (u : Int)) (by unfold SO; omega)).trans g1
    refine aw_iload dX12_unite_157 rfl ?_
    refine aw_aload_n dX12_unite_159 rfl ?_
    refine aw_getr' (j := 0) dX12_unite_160 fX12_7 rfl (by assumption) rfl (by assumption) ?_
    refine aw_bipush dX12_unite_163 rfl ?_
    refine aw_iload_n dX12_unite_165 rfl ?_
    refine aw_iadd dX12_unite_166 ?_
    refine aw_iald' dX12_unite_167 (by assumption) (by omega) (by first | decide | omega) g1' ?_
    refine aw_ic_ge (tgt := 197) dX12_unite_168 rfl (by omega) (by omega) (fun c168 => ?_) (fun c168 => ?_)
    · refine aw_sub [1, 2, 3, 4, 5] rfl ?_
      exact kk
    · exact absurd c168 (by omega)
  | cons c t ih =>
    intro k hd hk
    obtain ⟨e9, hc, hr⟩ := drop_cons hd
    have E : eqG (SO a) h (mputs a h (P ++ (wQry q).take k)) := eqG_mputs _ _
    have hM1 := E.sh hM
    obtain ⟨hka, -, -⟩ := hM1.q
    obtain ⟨rm, km⟩ := hM1.m
    have g1' := (E.2.2.2.2 (a + 1) (121 + (u : Int)) (by unfold SO; omega)).trans g1
    have g2' := (E.2.2.2.2 (a + 1) (125 + 400 * (u : Int) + k) (by unfold SO; omega)).trans (g2 k c hc)
    have O := (isO9_of (a := a) (P ++ (wQry q).take k) h0).1
    rw [List.length_append, List.length_take] at O
    have KP := m_put (γ := γ) (v := c) hM1 (by omega)
    have I := ih (k + 1) hr (by omega)
    have e : P ++ (wQry q).take (k + 1) = (P ++ (wQry q).take k) ++ [c] := by rw [List.take_add_one, hc, List.append_assoc]; rfl
    rw [e, mputs_snoc] at I
    refine aw_iload dX12_unite_157 rfl ?_
    refine aw_aload_n dX12_unite_159 rfl ?_
    refine aw_getr' (j := 0) dX12_unite_160 fX12_7 rfl (by assumption) rfl (by assumption) ?_
    refine aw_bipush dX12_unite_163 rfl ?_
    refine aw_iload_n dX12_unite_165 rfl ?_
    refine aw_iadd dX12_unite_166 ?_
    refine aw_iald' dX12_unite_167 (by assumption) (by omega) (by first | decide | omega) g1' ?_
    refine aw_ic_ge (tgt := 197) dX12_unite_168 rfl (by omega) (by omega) (fun c168 => ?_) (fun c168 => ?_)
    · exact absurd c168 (by omega)
    · refine aw_aload_n dX12_unite_171 rfl ?_
      refine aw_aload_n dX12_unite_172 rfl ?_
      refine aw_getr' (j := 0) dX12_unite_173 fX12_7 rfl (by assumption) rfl (by assumption) ?_
      refine aw_bipush dX12_unite_176 rfl ?_
      refine aw_sipush dX12_unite_178 rfl ?_
      refine aw_iload_n dX12_unite_181 rfl ?_
      refine aw_imul dX12_unite_182 ?_
      refine aw_iadd dX12_unite_183 ?_
      refine aw_iload dX12_unite_184 rfl ?_
      refine aw_iadd dX12_unite_186 ?_
      refine aw_iald' dX12_unite_187 (by assumption) (by omega) (by first | decide | omega) g2' ?_
      refine aw_invV_n dX12_unite_188 vX12_put kX12_192 rfl (KP) ⟨_, (by assumption), _, _, rfl⟩ rfl rfl (by decide) (by decide) (by decide) (Nat.le_of_ble_eq_true rfl) ?_
      refine aw_iinc (k9 := 0) (ls1 := [(5, _), (4, _), (0, _), (1, _), (2, _), (3, _)]) dX12_unite_191 rfl (by decide) rfl ?_
      refine aw_goto (tgt := 157) dX12_unite_194 rfl ?_
      refine aw_sub [0, 1, 2, 3, 4, 5] rfl ?_
      exact I
theorem l_un3 {γ : GG} {a u : Nat} {n p r s : Int} {h : AH} {W : List Int} {m2 : Nat} {Q : AR → AH → Prop} (hM : shM h a) (hu : u < 4) (hv : p = (u : Int)) (hO : isO9 h a W) (hl : W.length ≤ 400) (hq : gi h (a + 7) 0 = (m2 : Int)) (kk : ∀ H, eqG (fun b _ => b = a + 1) h H → (∀ (j : Nat) (c : Int), W[j]? = some c → gi H (a + 1) (125 + 400 * u + j) = c) → (∀ j : Int, ¬ (125 + 400 * (u : Int) ≤ j ∧ j < 125 + 400 * (u : Int) + 400) → gi H (a + 1) j = gi h (a + 1) j) → Q (.inl (some (vi (n + (m2 : Int))))) H) : ∀ (m k : Nat) (H : AH), k + m = W.length → eqG (fun b _ => b = a + 1) h H → (∀ (j : Nat) (c : Int), j < k → W[j]? = some c → gi H (a + 1) (125 + 400 * u + j) = c) → (∀ j : Int, ¬ (125 + 400 * (u : Int) ≤ j ∧ j < 125 + 400 * (u : Int) + 400) → gi H (a + 1) j = gi h (a + 1) j) → AW γ mX12_unite 11 0 0 213 [(5, vi (k : Int)), (4, vi n), (0, vr (some a)), (1, vi p), (2, vi r), (3, vi s)] [] H Q := by
  subst hv
  intro m
  induction m with
  | zero =>
    intro k H hkm hE hj hf
    have hM1 := hE.sh hM
    obtain ⟨hka, rq, kq⟩ := hM1.q
    have g14 : gi H a 14 = (W.length : Int) := (hE.2.2.2.2 _ _ (by dsimp only; omega)).trans hO.1
    have gq : gi H (a + 7) 0 = (m2 : Int) := (hE.2.2.2.2 _ _ (by dsimp only; omega)).trans hq
    have K := kk H hE (fun j c hc => hj j c (by have := lt_of_get hc; omega) hc) hf
    refine aw_iload dX12_unite_213 rfl ?_
    refine aw_aload_n dX12_unite_215 rfl ?_
    refine aw_geti' (j := 14) dX12_unite_216 fX12_186 rfl (by assumption) rfl g14 ?_
    refine aw_ic_ge (tgt := 251) dX12_unite_219 rfl (by omega) (by omega) (fun c219 => ?_) (fun c219 => ?_)
    · refine aw_iload dX12_unite_251 rfl ?_
      refine aw_aload_n dX12_unite_253 rfl ?_
      refine aw_getr' (j := 12) dX12_unite_254 fX12_28 rfl (by assumption) rfl (by assumption) ?_
      refine aw_iconst dX12_unite_257 ?_
      refine aw_iald' dX12_unite_258 (by assumption) (by omega) (by first | decide | omega) gq ?_
      refine aw_iadd dX12_unite_259 ?_
      exact aw_ireturn dX12_unite_260 rfl (Or.inl rfl) K
    · exact absurd c219 (by omega)
  | succ m ih =>
    intro k H hkm hE hj hf
    have hM1 := hE.sh hM
    obtain ⟨hka, rq, kq⟩ := hM1.q
    obtain ⟨rm, km⟩ := hM1.m
    obtain ⟨ro, ko⟩ := hM1.o
    have g14 : gi H a 14 = (W.length : Int) := (hE.2.2.2.2 _ _ (by dsimp only; omega)).trans hO.1
    obtain ⟨c, hc⟩ : ∃ c, W[k]? = some c := ⟨_, List.getElem?_eq_getElem (by omega)⟩
    have gc : gi H (a + 8) (k : Int) = c := (hE.2.2.2.2 _ _ (by dsimp only; omega)).trans (hO.2 k c hc)
    have I := ih (k + 1) (si H (a + 1) (125 + 400 * (u : Int) + (k : Int)) c) (by omega) (hE.tr (eqG.si rfl)) (fun j d hj2 hd => by
      by_cases z : j = k
      · subst z
        rw [hc] at hd
        cases hd
        exact gi_at rfl rfl
      · exact (gi_ne (Or.inr (by omega))).trans (hj j d (by omega) hd)) (fun j hj2 => (gi_ne (Or.inr (by omega))).trans (hf j hj2))
    refine aw_iload dX12_unite_213 rfl ?_
    refine aw_aload_n dX12_unite_215 rfl ?_
    refine aw_geti' (j := 14) dX12_unite_216 fX12_186 rfl (by assumption) rfl g14 ?_
    refine aw_ic_ge (tgt := 251) dX12_unite_219 rfl (by omega) (by omega) (fun c219 => ?_) (fun c219 => ?_)
    · exact absurd c219 (by omega)
    · refine aw_aload_n dX12_unite_222 rfl ?_
      refine aw_getr' (j := 0) dX12_unite_223 fX12_7 rfl (by assumption) rfl (by assumption) ?_
      refine aw_bipush dX12_unite_226 rfl ?_
      refine aw_sipush dX12_unite_228 rfl ?_
      refine aw_iload_n dX12_unite_231 rfl ?_
      refine aw_imul dX12_unite_232 ?_
      refine aw_iadd dX12_unite_233 ?_
      refine aw_iload dX12_unite_234 rfl ?_
      refine aw_iadd dX12_unite_236 ?_
      refine aw_aload_n dX12_unite_237 rfl ?_
      refine aw_getr' (j := 13) dX12_unite_238 fX12_31 rfl (by assumption) rfl (by assumption) ?_
      refine aw_iload dX12_unite_241 rfl ?_
      refine aw_iald' dX12_unite_243 (by assumption) (by omega) (by first | decide | omega) gc ?_
      refine aw_iast dX12_unite_244 (by assumption) (by omega) (by first | decide | omega) ?_
      refine aw_iinc (k9 := 0) (ls1 := [(5, _), (4, _), (0, _), (1, _), (2, _), (3, _)]) dX12_unite_245 rfl (by decide) rfl ?_
      refine aw_goto (tgt := 213) dX12_unite_248 rfl ?_
      refine aw_sub [0, 1, 2, 3, 4, 5] rfl ?_
      exact I
theorem m_unite {γ : GG} {h : AH} {a : Nat} {F : FS} {p r s : Int} (hF : isF h a F) (hp : (-2147483648 ≤ p ∧ p ≤ 2147483647)) (hr : (-2147483648 ≤ r ∧ r ≤ 2147483647)) (hs : (-2147483648 ≤ s ∧ s ≤ 2147483647)) : Call γ mX12_unite 11 0 0 [vr (some a), vi p, vi r, vi s] h (rM h a (opUni F p r s)) := by
  obtain ⟨S, U, tx⟩ := F
  obtain ⟨T, qs⟩ := S
  have hm : isMd h a (T, qs) U tx := hF
  have oT : okTr T := hm.2.2.1.1
  have o9 := oT.o
  have n40 := o9.2.1
  have n1 := o9.1
  obtain ⟨hka, -, -⟩ := hm.1.q
  obtain ⟨rm, km⟩ := hm.1.m
  have g0 : gi h (a + 1) 0 = (tn T : Int) := hm.2.1.1.1
  have m5 : isMd (si h a 5 0) a (T, qs) U tx := hm.eqk (E5 (v := 0))
  have KP := m_isPlace (γ := γ) (h := h) hp
  have KR := m_isPlace (γ := γ) (h := h) hr
  have KS := m_isPlace (γ := γ) (h := h) hs
  unfold opUni
  dsimp only
  by_cases c1 : 0 ≤ p ∧ p ≤ 3
  · rw [if_pos c1] at KP
    by_cases c2 : 0 ≤ r ∧ r ≤ 3
    · rw [if_pos c2] at KR
      by_cases c3 : 0 ≤ s ∧ s ≤ 3
      · rw [if_pos c3] at KS
        rw [if_neg (fun z => z ⟨c1, c2, c3⟩)]
        obtain ⟨u, rfl⟩ := Int.eq_ofNat_of_zero_le c1.1
        obtain ⟨x, rfl⟩ := Int.eq_ofNat_of_zero_le c2.1
        obtain ⟨y, rfl⟩ := Int.eq_ofNat_of_zero_le c3.1
        rw [Int.toNat_natCast, Int.toNat_natCast, Int.toNat_natCast]
        have hu : u < 4 := by omega
        have hx : x < 4 := by omega
        have hy : y < 4 := by omega
        have KH : Call γ mX12_has 0 0 0 [vr (some a), vi (x : Int)] h (rV (vi (if qs x = [] then 0 else 1)) h) := m_has (γ := γ) hm hx
        have KJ : Call γ mX12_has 0 0 0 [vr (some a), vi (y : Int)] h (rV (vi (if qs y = [] then 0 else 1)) h) := m_has (γ := γ) hm hy
        have ox : okQ (qs x) ∧ lnQ (qs x) := hm.2.2.1.2 x hx
        have oy : okQ (qs y) ∧ lnQ (qs y) := hm.2.2.1.2 y hy
        have lx := ox.1.1
        have ly := oy.1.1
        by_cases d3 : qs x = []
        · rw [if_pos (Or.inl d3)]
          rw [if_pos d3] at KH
          refine Call.of (ls := [(0, vr (some a)), (1, vi (u : Int)), (2, vi (x : Int)), (3, vi (y : Int))]) vX12_unite.1 (Nat.le_of_ble_eq_true rfl) rfl ?_
          refine aw_aload_n dX12_unite_0 rfl ?_
          refine aw_iload_n dX12_unite_1 rfl ?_
          refine aw_invS_r dX12_unite_2 sX12_isPlace kX12_217 rfl (KP) rfl rfl (by decide) (by decide) (by decide) (Nat.le_of_ble_eq_true rfl) ?_
          refine aw_if_eq (tgt := 22) dX12_unite_5 rfl (by omega) (fun c5 => ?_) (fun c5 => ?_)
          · exact absurd c5 (by omega)
          · refine aw_iload_n dX12_unite_8 rfl ?_
            refine aw_invS_r dX12_unite_9 sX12_isPlace kX12_217 rfl (KR) rfl rfl (by decide) (by decide) (by decide) (Nat.le_of_ble_eq_true rfl) ?_
            refine aw_if_eq (tgt := 22) dX12_unite_12 rfl (by omega) (fun c12 => ?_) (fun c12 => ?_)
            · exact absurd c12 (by omega)
            · refine aw_iload_n dX12_unite_15 rfl ?_
              refine aw_invS_r dX12_unite_16 sX12_isPlace kX12_217 rfl (KS) rfl rfl (by decide) (by decide) (by decide) (Nat.le_of_ble_eq_true rfl) ?_
              refine aw_if_ne (tgt := 26) dX12_unite_19 rfl (by omega) (fun c19 => ?_) (fun c19 => ?_)
              · refine aw_aload_n dX12_unite_26 rfl ?_
                refine aw_iload_n dX12_unite_27 rfl ?_
                refine aw_invV_r dX12_unite_28 vX12_has kX12_223 rfl (KH) ⟨_, (by assumption), _, _, rfl⟩ rfl rfl (by decide) (by decide) (by decide) (Nat.le_of_ble_eq_true rfl) ?_
                refine aw_if_eq (tgt := 42) dX12_unite_31 rfl (by omega) (fun c31 => ?_) (fun c31 => ?_)
                · refine aw_iconst dX12_unite_42 ?_
                  refine aw_goto (tgt := 47) dX12_unite_43 rfl ?_
                  refine aw_puti' (j := 5) rfl dX12_unite_47 fX12_62 (by assumption) rfl ?_
                  refine aw_aload_n dX12_unite_50 rfl ?_
                  refine aw_geti' (j := 5) dX12_unite_51 fX12_62 rfl (by assumption) rfl (gi_at rfl rfl) ?_
                  refine aw_if_eq (tgt := 59) dX12_unite_54 rfl (by omega) (fun c54 => ?_) (fun c54 => ?_)
                  · exact absurd c54 (by omega)
                  · refine aw_iconst dX12_unite_57 ?_
                    exact aw_ireturn dX12_unite_58 rfl (Or.inl rfl) ⟨rfl, rM_err hF 2⟩
                · exact absurd c31 (by omega)
              · exact absurd c19 (by omega)
        · rw [if_neg d3] at KH
          by_cases d4 : qs y = []
          · rw [if_pos (Or.inr d4)]
            rw [if_pos d4] at KJ
            refine Call.of (ls := [(0, vr (some a)), (1, vi (u : Int)), (2, vi (x : Int)), (3, vi (y : Int))]) vX12_unite.1 (Nat.le_of_ble_eq_true rfl) rfl ?_
            refine aw_aload_n dX12_unite_0 rfl ?_
            refine aw_iload_n dX12_unite_1 rfl ?_
            refine aw_invS_r dX12_unite_2 sX12_isPlace kX12_217 rfl (KP) rfl rfl (by decide) (by decide) (by decide) (Nat.le_of_ble_eq_true rfl) ?_
            refine aw_if_eq (tgt := 22) dX12_unite_5 rfl (by omega) (fun c5 => ?_) (fun c5 => ?_)
            · exact absurd c5 (by omega)
            · refine aw_iload_n dX12_unite_8 rfl ?_
              refine aw_invS_r dX12_unite_9 sX12_isPlace kX12_217 rfl (KR) rfl rfl (by decide) (by decide) (by decide) (Nat.le_of_ble_eq_true rfl) ?_
              refine aw_if_eq (tgt := 22) dX12_unite_12 rfl (by omega) (fun c12 => ?_) (fun c12 => ?_)
              · exact absurd c12 (by omega)
              · refine aw_iload_n dX12_unite_15 rfl ?_
                refine aw_invS_r dX12_unite_16 sX12_isPlace kX12_217 rfl (KS) rfl rfl (by decide) (by decide) (by decide) (Nat.le_of_ble_eq_true rfl) ?_
                refine aw_if_ne (tgt := 26) dX12_unite_19 rfl (by omega) (fun c19 => ?_) (fun c19 => ?_)
                · refine aw_aload_n dX12_unite_26 rfl ?_
                  refine aw_iload_n dX12_unite_27 rfl ?_
                  refine aw_invV_r dX12_unite_28 vX12_has kX12_223 rfl (KH) ⟨_, (by assumption), _, _, rfl⟩ rfl rfl (by decide) (by decide) (by decide) (Nat.le_of_ble_eq_true rfl) ?_
                  refine aw_if_eq (tgt := 42) dX12_unite_31 rfl (by omega) (fun c31 => ?_) (fun c31 => ?_)
                  · exact absurd c31 (by omega)
                  · refine aw_aload_n dX12_unite_34 rfl ?_
                    refine aw_iload_n dX12_unite_35 rfl ?_
                    refine aw_invV_r dX12_unite_36 vX12_has kX12_223 rfl (KJ) ⟨_, (by assumption), _, _, rfl⟩ rfl rfl (by decide) (by decide) (by decide) (Nat.le_of_ble_eq_true rfl) ?_
                    refine aw_if_ne (tgt := 46) dX12_unite_39 rfl (by omega) (fun c39 => ?_) (fun c39 => ?_)
                    · exact absurd c39 (by omega)
                    · refine aw_iconst dX12_unite_42 ?_
                      refine aw_goto (tgt := 47) dX12_unite_43 rfl ?_
                      refine aw_puti' (j := 5) rfl dX12_unite_47 fX12_62 (by assumption) rfl ?_
                      refine aw_aload_n dX12_unite_50 rfl ?_
                      refine aw_geti' (j := 5) dX12_unite_51 fX12_62 rfl (by assumption) rfl (gi_at rfl rfl) ?_
                      refine aw_if_eq (tgt := 59) dX12_unite_54 rfl (by omega) (fun c54 => ?_) (fun c54 => ?_)
                      · exact absurd c54 (by omega)
                      · refine aw_iconst dX12_unite_57 ?_
                        exact aw_ireturn dX12_unite_58 rfl (Or.inl rfl) ⟨rfl, rM_err hF 2⟩
                · exact absurd c19 (by omega)
          · rw [if_neg (fun z => z.elim d3 d4)]
            rw [if_neg d4] at KJ
            have KT : Call γ mX12_take 10 0 0 [vr (some a), vi (x : Int)] (si h a 5 0) (rF (fun h' => eqG (ST9 a) (si h a 5 0) h' ∧ gQ (gi h' (a + 7)) (qs x))) := m_take9 (γ := γ) m5 hx d3
            by_cases d5 : 4 < (qs x).length + (qs y).length
            · rw [if_pos d5]
              refine Call.of (ls := [(0, vr (some a)), (1, vi (u : Int)), (2, vi (x : Int)), (3, vi (y : Int))]) vX12_unite.1 (Nat.le_of_ble_eq_true rfl) rfl ?_
              refine aw_aload_n dX12_unite_0 rfl ?_
              refine aw_iload_n dX12_unite_1 rfl ?_
              refine aw_invS_r dX12_unite_2 sX12_isPlace kX12_217 rfl (KP) rfl rfl (by decide) (by decide) (by decide) (Nat.le_of_ble_eq_true rfl) ?_
              refine aw_if_eq (tgt := 22) dX12_unite_5 rfl (by omega) (fun c5 => ?_) (fun c5 => ?_)
              · exact absurd c5 (by omega)
              · refine aw_iload_n dX12_unite_8 rfl ?_
                refine aw_invS_r dX12_unite_9 sX12_isPlace kX12_217 rfl (KR) rfl rfl (by decide) (by decide) (by decide) (Nat.le_of_ble_eq_true rfl) ?_
                refine aw_if_eq (tgt := 22) dX12_unite_12 rfl (by omega) (fun c12 => ?_) (fun c12 => ?_)
                · exact absurd c12 (by omega)
                · refine aw_iload_n dX12_unite_15 rfl ?_
                  refine aw_invS_r dX12_unite_16 sX12_isPlace kX12_217 rfl (KS) rfl rfl (by decide) (by decide) (by decide) (Nat.le_of_ble_eq_true rfl) ?_
                  refine aw_if_ne (tgt := 26) dX12_unite_19 rfl (by omega) (fun c19 => ?_) (fun c19 => ?_)
                  · refine aw_aload_n dX12_unite_26 rfl ?_
                    refine aw_iload_n dX12_unite_27 rfl ?_
                    refine aw_invV_r dX12_unite_28 vX12_has kX12_223 rfl (KH) ⟨_, (by assumption), _, _, rfl⟩ rfl rfl (by decide) (by decide) (by decide) (Nat.le_of_ble_eq_true rfl) ?_
                    refine aw_if_eq (tgt := 42) dX12_unite_31 rfl (by omega) (fun c31 => ?_) (fun c31 => ?_)
                    · exact absurd c31 (by omega)
                    · refine aw_aload_n dX12_unite_34 rfl ?_
                      refine aw_iload_n dX12_unite_35 rfl ?_
                      refine aw_invV_r dX12_unite_36 vX12_has kX12_223 rfl (KJ) ⟨_, (by assumption), _, _, rfl⟩ rfl rfl (by decide) (by decide) (by decide) (Nat.le_of_ble_eq_true rfl) ?_
                      refine aw_if_ne (tgt := 46) dX12_unite_39 rfl (by omega) (fun c39 => ?_) (fun c39 => ?_)
                      · refine aw_iconst dX12_unite_46 ?_
                        refine aw_puti' (j := 5) rfl dX12_unite_47 fX12_62 (by assumption) rfl ?_
                        refine aw_aload_n dX12_unite_50 rfl ?_
                        refine aw_geti' (j := 5) dX12_unite_51 fX12_62 rfl (by assumption) rfl (gi_at rfl rfl) ?_
                        refine aw_if_eq (tgt := 59) dX12_unite_54 rfl (by omega) (fun c54 => ?_) (fun c54 => ?_)
                        · refine aw_aload_n dX12_unite_59 rfl ?_
                          refine aw_iload_n dX12_unite_60 rfl ?_
                          refine aw_invV_f dX12_unite_61 vX12_take kX12_235 rfl (KT) ⟨_, (by assumption), _, _, rfl⟩ rfl rfl (by decide) (by decide) (by decide) (Nat.le_of_ble_eq_true rfl) (fun H1 hP9 => ?_)
                          obtain ⟨E1, G1⟩ := hP9
                          have m1 : isMd H1 a (T, qs) U tx := m5.eqk (E1.mono ST9_k)
                          obtain ⟨hka1, rq1, kq1⟩ := m1.1.q
                          have gq1 : gi H1 (a + 7) 0 = ((qs x).length : Int) := G1.1
                          have KT2 : Call γ mX12_take 10 0 0 [vr (some a), vi (y : Int)] H1 (rF (fun h' => eqG (ST9 a) H1 h' ∧ gQ (gi h' (a + 7)) (qs y))) := m_take9 (γ := γ) m1 hy d4
                          refine aw_aload_n dX12_unite_64 rfl ?_
                          refine aw_getr' (j := 12) dX12_unite_65 fX12_28 rfl (by assumption) rfl (by assumption) ?_
                          refine aw_iconst dX12_unite_68 ?_
                          refine aw_iald' dX12_unite_69 (by assumption) (by omega) (by first | decide | omega) gq1 ?_
                          refine aw_istore (ls1 := [(4, _), (0, _), (1, _), (2, _), (3, _)]) dX12_unite_70 (by decide) rfl ?_
                          refine aw_aload_n dX12_unite_72 rfl ?_
                          refine aw_iload_n dX12_unite_73 rfl ?_
                          refine aw_invV_f dX12_unite_74 vX12_take kX12_235 rfl (KT2) ⟨_, (by assumption), _, _, rfl⟩ rfl rfl (by decide) (by decide) (by decide) (Nat.le_of_ble_eq_true rfl) (fun H2 hP9 => ?_)
                          obtain ⟨E2, G2⟩ := hP9
                          have m2 : isMd H2 a (T, qs) U tx := m1.eqk (E2.mono ST9_k)
                          obtain ⟨hka2, rq2, kq2⟩ := m2.1.q
                          have gq2 : gi H2 (a + 7) 0 = ((qs y).length : Int) := G2.1
                          have KF := m_fails (γ := γ) (h := H2) (v := 2) hka2
                          have KK := m_keep (γ := γ) m2
                          refine aw_iload dX12_unite_77 rfl ?_
                          refine aw_aload_n dX12_unite_79 rfl ?_
                          refine aw_getr' (j := 12) dX12_unite_80 fX12_28 rfl (by assumption) rfl (by assumption) ?_
                          refine aw_iconst dX12_unite_83 ?_
                          refine aw_iald' dX12_unite_84 (by assumption) (by omega) (by first | decide | omega) gq2 ?_
                          refine aw_iadd dX12_unite_85 ?_
                          refine aw_iconst dX12_unite_86 ?_
                          refine aw_ic_le (tgt := 96) dX12_unite_87 rfl (by omega) (by omega) (fun c87 => ?_) (fun c87 => ?_)
                          · exact absurd c87 (by omega)
                          · refine aw_aload_n dX12_unite_90 rfl ?_
                            refine aw_iconst dX12_unite_91 ?_
                            refine aw_invV_r dX12_unite_92 vX12_fails kX12_102 rfl (KF) ⟨_, (by assumption), _, _, rfl⟩ rfl rfl (by decide) (by decide) (by decide) (Nat.le_of_ble_eq_true rfl) ?_
                            exact aw_ireturn dX12_unite_95 rfl (Or.inl rfl) ⟨rfl, isMd.eqk m2 E5, gi_at rfl rfl, (((E5.mono SA_k).tr ((E1.mono ST9_k).mono SA_k)).tr ((E2.mono ST9_k).mono SA_k)).tr (E5.mono SA_k)⟩
                        · exact absurd c54 (by omega)
                      · exact absurd c39 (by omega)
                  · exact absurd c19 (by omega)
            · rw [if_neg d5]
              refine Call.of (ls := [(0, vr (some a)), (1, vi (u : Int)), (2, vi (x : Int)), (3, vi (y : Int))]) vX12_unite.1 (Nat.le_of_ble_eq_true rfl) rfl ?_
              refine aw_aload_n dX12_unite_0 rfl ?_
              refine aw_iload_n dX12_unite_1 rfl ?_
              refine aw_invS_r dX12_unite_2 sX12_isPlace kX12_217 rfl (KP) rfl rfl (by decide) (by decide) (by decide) (Nat.le_of_ble_eq_true rfl) ?_
              refine aw_if_eq (tgt := 22) dX12_unite_5 rfl (by omega) (fun c5 => ?_) (fun c5 => ?_)
              · exact absurd c5 (by omega)
              · refine aw_iload_n dX12_unite_8 rfl ?_
                refine aw_invS_r dX12_unite_9 sX12_isPlace kX12_217 rfl (KR) rfl rfl (by decide) (by decide) (by decide) (Nat.le_of_ble_eq_true rfl) ?_
                refine aw_if_eq (tgt := 22) dX12_unite_12 rfl (by omega) (fun c12 => ?_) (fun c12 => ?_)
                · exact absurd c12 (by omega)
                · refine aw_iload_n dX12_unite_15 rfl ?_
                  refine aw_invS_r dX12_unite_16 sX12_isPlace kX12_217 rfl (KS) rfl rfl (by decide) (by decide) (by decide) (Nat.le_of_ble_eq_true rfl) ?_
                  refine aw_if_ne (tgt := 26) dX12_unite_19 rfl (by omega) (fun c19 => ?_) (fun c19 => ?_)
                  · refine aw_aload_n dX12_unite_26 rfl ?_
                    refine aw_iload_n dX12_unite_27 rfl ?_
                    refine aw_invV_r dX12_unite_28 vX12_has kX12_223 rfl (KH) ⟨_, (by assumption), _, _, rfl⟩ rfl rfl (by decide) (by decide) (by decide) (Nat.le_of_ble_eq_true rfl) ?_
                    refine aw_if_eq (tgt := 42) dX12_unite_31 rfl (by omega) (fun c31 => ?_) (fun c31 => ?_)
                    · exact absurd c31 (by omega)
                    · refine aw_aload_n dX12_unite_34 rfl ?_
                      refine aw_iload_n dX12_unite_35 rfl ?_
                      refine aw_invV_r dX12_unite_36 vX12_has kX12_223 rfl (KJ) ⟨_, (by assumption), _, _, rfl⟩ rfl rfl (by decide) (by decide) (by decide) (Nat.le_of_ble_eq_true rfl) ?_
                      refine aw_if_ne (tgt := 46) dX12_unite_39 rfl (by omega) (fun c39 => ?_) (fun c39 => ?_)
                      · refine aw_iconst dX12_unite_46 ?_
                        refine aw_puti' (j := 5) rfl dX12_unite_47 fX12_62 (by assumption) rfl ?_
                        refine aw_aload_n dX12_unite_50 rfl ?_
                        refine aw_geti' (j := 5) dX12_unite_51 fX12_62 rfl (by assumption) rfl (gi_at rfl rfl) ?_
                        refine aw_if_eq (tgt := 59) dX12_unite_54 rfl (by omega) (fun c54 => ?_) (fun c54 => ?_)
                        · refine aw_aload_n dX12_unite_59 rfl ?_
                          refine aw_iload_n dX12_unite_60 rfl ?_
                          refine aw_invV_f dX12_unite_61 vX12_take kX12_235 rfl (KT) ⟨_, (by assumption), _, _, rfl⟩ rfl rfl (by decide) (by decide) (by decide) (Nat.le_of_ble_eq_true rfl) (fun H1 hP9 => ?_)
                          obtain ⟨E1, G1⟩ := hP9
                          have m1 : isMd H1 a (T, qs) U tx := m5.eqk (E1.mono ST9_k)
                          obtain ⟨hka1, rq1, kq1⟩ := m1.1.q
                          have gq1 : gi H1 (a + 7) 0 = ((qs x).length : Int) := G1.1
                          have KT2 : Call γ mX12_take 10 0 0 [vr (some a), vi (y : Int)] H1 (rF (fun h' => eqG (ST9 a) H1 h' ∧ gQ (gi h' (a + 7)) (qs y))) := m_take9 (γ := γ) m1 hy d4
                          refine aw_aload_n dX12_unite_64 rfl ?_
                          refine aw_getr' (j := 12) dX12_unite_65 fX12_28 rfl (by assumption) rfl (by assumption) ?_
                          refine aw_iconst dX12_unite_68 ?_
                          refine aw_iald' dX12_unite_69 (by assumption) (by omega) (by first | decide | omega) gq1 ?_
                          refine aw_istore (ls1 := [(4, _), (0, _), (1, _), (2, _), (3, _)]) dX12_unite_70 (by decide) rfl ?_
                          refine aw_aload_n dX12_unite_72 rfl ?_
                          refine aw_iload_n dX12_unite_73 rfl ?_
                          refine aw_invV_f dX12_unite_74 vX12_take kX12_235 rfl (KT2) ⟨_, (by assumption), _, _, rfl⟩ rfl rfl (by decide) (by decide) (by decide) (Nat.le_of_ble_eq_true rfl) (fun H2 hP9 => ?_)
                          obtain ⟨E2, G2⟩ := hP9
                          have m2 : isMd H2 a (T, qs) U tx := m1.eqk (E2.mono ST9_k)
                          obtain ⟨hka2, rq2, kq2⟩ := m2.1.q
                          have gq2 : gi H2 (a + 7) 0 = ((qs y).length : Int) := G2.1
                          have KF := m_fails (γ := γ) (h := H2) (v := 2) hka2
                          have KK := m_keep (γ := γ) m2
                          refine aw_iload dX12_unite_77 rfl ?_
                          refine aw_aload_n dX12_unite_79 rfl ?_
                          refine aw_getr' (j := 12) dX12_unite_80 fX12_28 rfl (by assumption) rfl (by assumption) ?_
                          refine aw_iconst dX12_unite_83 ?_
                          refine aw_iald' dX12_unite_84 (by assumption) (by omega) (by first | decide | omega) gq2 ?_
                          refine aw_iadd dX12_unite_85 ?_
                          refine aw_iconst dX12_unite_86 ?_
                          refine aw_ic_le (tgt := 96) dX12_unite_87 rfl (by omega) (by omega) (fun c87 => ?_) (fun c87 => ?_)
                          · refine aw_aload_n dX12_unite_96 rfl ?_
                            refine aw_invV_f dX12_unite_97 vX12_keep kX12_85 rfl (KK) ⟨_, (by assumption), _, _, rfl⟩ rfl rfl (by decide) (by decide) (by decide) (Nat.le_of_ble_eq_true rfl) (fun H3 hP9 => ?_)
                            obtain ⟨E3, m3⟩ := hP9
                            obtain ⟨hka3, rq3, kq3⟩ := m3.1.q
                            have EH : eqG (fun b j => b = a ∧ j = 14) H3 (si H3 a 14 0) := eqG.si ⟨rfl, rfl⟩
                            have m4 : isMd (si H3 a 14 0) a (T, qs) (psh U (T, qs)) tx := m3.eqk (EH.mono (fun b j z => by unfold SK; omega))
                            have gx1 : gi (si H3 a 14 0) (a + 1) (121 + (x : Int)) = (wQry (qs x)).length := by have := (m4.2.1.2 x hx).1; rw [show (0 : Int) + 121 + (x : Int) = 121 + (x : Int) by omega] at this; exact this
                            have gx2 : ∀ (k : Nat) (c : Int), (wQry (qs x))[k]? = some c → gi (si H3 a 14 0) (a + 1) (125 + 400 * (x : Int) + k) = c := fun k c hk => by have := (m4.2.1.2 x hx).2 k c hk; rw [show (0 : Int) + 125 + 400 * (x : Int) + (k : Int) = 125 + 400 * (x : Int) + k by omega] at this; exact this
                            have gy1 : gi (si H3 a 14 0) (a + 1) (121 + (y : Int)) = (wQry (qs y)).length := by have := (m4.2.1.2 y hy).1; rw [show (0 : Int) + 121 + (y : Int) = 121 + (y : Int) by omega] at this; exact this
                            have gy2 : ∀ (k : Nat) (c : Int), (wQry (qs y))[k]? = some c → gi (si H3 a 14 0) (a + 1) (125 + 400 * (y : Int) + k) = c := fun k c hk => by have := (m4.2.1.2 y hy).2 k c hk; rw [show (0 : Int) + 125 + 400 * (y : Int) + (k : Int) = 125 + 400 * (y : Int) + k by omega] at this; exact this
                            have bx := wQry_le ox.1 ox.2
                            have bY := wQry_le oy.1 oy.2
                            have g14 : gi (si H3 a 14 0) a 14 = 0 := gi_at rfl rfl
                            have oxy := okQ_app ox.1 oy.1 (by omega)
                            have lxy := lnQ_app ox.2 oy.2
                            have bxy := wQry_le oxy lxy
                            have exy := wQry_app d3 d4
                            have gq3 : gi (si H3 a 14 0) (a + 7) 0 = ((qs y).length : Int) := (gi_ne (Or.inl (by omega))).trans ((E3.2.2.2.2 _ _ (by unfold SV; omega)).trans gq2)
                            have EP := fun l => eqG_mputs (a := a) l (si H3 a 14 0)
                            have L3 := l_un3 (γ := γ) (n := ((qs x).length : Int)) (p := (u : Int)) (r := (x : Int)) (s := (y : Int)) (W := wQry (qs x ++ qs y)) (m2 := (qs y).length) (h := si (mputs a (si H3 a 14 0) (wQry (qs x ++ qs y))) (a + 1) (121 + (u : Int)) ((wQry (qs x ++ qs y)).length : Int)) (Q := rM h a (0, ((qs x).length : Int) + ((qs y).length : Int), keepF ((T, qs), U, tx) (upQ (T, qs) u (qs x ++ qs y)))) ((EP _).sh m4.1) hu rfl ⟨(gi_ne (Or.inl (by omega))).trans (isO9_of _ g14).1, fun k c hk => (gi_ne (Or.inl (by omega))).trans ((isO9_of _ g14).2 k c hk)⟩ (by omega) ((gi_ne (Or.inl (by omega))).trans (((EP _).2.2.2.2 _ _ (by unfold SO; omega)).trans gq3)) (fun H hE h1 h2 => by
                              have E8 : eqG (SL a) (si H3 a 14 0) H := (((EP _).mono (S' := SL a) (fun b j z => Or.inl z)).tr (eqG.si (Or.inr rfl))).tr (hE.mono (fun b j z => Or.inr z))
                              have eo : ∀ j, gi (mputs a (si H3 a 14 0) (wQry (qs x ++ qs y))) (a + 1) j = gi (si H3 a 14 0) (a + 1) j := fun j => (EP _).2.2.2.2 _ _ (by unfold SO; omega)
                              have m8 := isMd.lay (q := qs x ++ qs y) m4 hu oxy lxy E8 ((h2 _ (by omega)).trans (gi_at rfl rfl)) h1 (fun j j1 j2 => (h2 j j2).trans ((gi_ne (Or.inr j1)).trans (eo j)))
                              refine ⟨rfl, m8, ?_, (((((E5.mono SA_k).tr ((E1.mono ST9_k).mono SA_k)).tr ((E2.mono ST9_k).mono SA_k)).tr (E3.mono SA_v)).tr (EH.mono (fun b j z => by unfold SA; omega))).tr (E8.mono SA_l)⟩
                              exact (E8.2.2.2.2 _ _ (by unfold SL SO; omega)).trans ((gi_ne (Or.inr (by decide))).trans ((E3.2.2.2.2 _ _ (by unfold SV; omega)).trans ((E2.2.2.2.2 _ _ (by unfold ST9; omega)).trans ((E1.2.2.2.2 _ _ (by unfold ST9; omega)).trans (gi_at rfl rfl)))))) (wQry (qs x ++ qs y)).length 0 _ (by omega) eqG.rf (fun j c hj => absurd hj (by omega)) (fun j _ => rfl)
                            have L2 := l_un2 (γ := γ) (n := ((qs x).length : Int)) (p := (u : Int)) (r := (x : Int)) (s := (y : Int)) (h := si H3 a 14 0) (q := qs y) (P := wQry (qs x) ++ [124]) (Q := rM h a (0, ((qs x).length : Int) + ((qs y).length : Int), keepF ((T, qs), U, tx) (upQ (T, qs) u (qs x ++ qs y)))) m4.1 hy rfl g14 gy1 gy2 (by rw [List.length_append, List.length_singleton]; omega) bY (by
                              have eW : (wQry (qs x) ++ [124]) ++ wQry (qs y) = wQry (qs x ++ qs y) := by rw [exy, List.append_assoc]; rfl
                              rw [eW]
                              have hM9 := (EP (wQry (qs x ++ qs y))).sh m4.1
                              obtain ⟨hka9, -, -⟩ := hM9.q
                              obtain ⟨rm9, km9⟩ := hM9.m
                              have go := (isO9_of (a := a) (wQry (qs x ++ qs y)) g14).1
                              refine aw_aload_n dX12_unite_197 rfl ?_
                              refine aw_getr' (j := 0) dX12_unite_198 fX12_7 rfl (by assumption) rfl (by assumption) ?_
                              refine aw_bipush dX12_unite_201 rfl ?_
                              refine aw_iload_n dX12_unite_203 rfl ?_
                              refine aw_iadd dX12_unite_204 ?_
                              refine aw_aload_n dX12_unite_205 rfl ?_
                              refine aw_geti' (j := 14) dX12_unite_206 fX12_186 rfl (by assumption) rfl go ?_
                              refine aw_iast dX12_unite_209 (by assumption) (by omega) (by first | decide | omega) ?_
                              refine aw_iconst dX12_unite_210 ?_
                              refine aw_istore (ls1 := [(5, _), (4, _), (0, _), (1, _), (2, _), (3, _)]) dX12_unite_211 (by decide) rfl ?_
                              refine aw_sub [0, 1, 2, 3, 4, 5] rfl ?_
                              exact L3) (wQry (qs y)) 0 rfl (Nat.zero_le _)
                            have L1 := l_un1 (γ := γ) (n := ((qs x).length : Int)) (p := (u : Int)) (r := (x : Int)) (s := (y : Int)) (h := si H3 a 14 0) (q := qs x) (P := []) (Q := rM h a (0, ((qs x).length : Int) + ((qs y).length : Int), keepF ((T, qs), U, tx) (upQ (T, qs) u (qs x ++ qs y)))) m4.1 hx rfl g14 gx1 gx2 (Nat.zero_le _) bx (by
                              rw [List.nil_append]
                              have hM9 := (EP (wQry (qs x))).sh m4.1
                              obtain ⟨hka9, -, -⟩ := hM9.q
                              have go := (isO9_of (a := a) (wQry (qs x)) g14).1
                              have KPu := m_put (γ := γ) (v := 124) hM9 (by omega)
                              have L2 : AW γ mX12_unite 11 0 0 157 _ [] (mputs a (si H3 a 14 0) ((wQry (qs x) ++ [124]) ++ (wQry (qs y)).take 0)) _ := L2
                              rw [List.take_zero, List.append_nil, mputs_snoc] at L2
                              refine aw_aload_n dX12_unite_148 rfl ?_
                              refine aw_bipush dX12_unite_149 rfl ?_
                              refine aw_invV_n dX12_unite_151 vX12_put kX12_192 rfl (KPu) ⟨_, (by assumption), _, _, rfl⟩ rfl rfl (by decide) (by decide) (by decide) (Nat.le_of_ble_eq_true rfl) ?_
                              refine aw_iconst dX12_unite_154 ?_
                              refine aw_istore (ls1 := [(5, _), (4, _), (0, _), (1, _), (2, _), (3, _)]) dX12_unite_155 (by decide) rfl ?_
                              refine aw_sub [0, 1, 2, 3, 4, 5] rfl ?_
                              exact L2) (wQry (qs x)) 0 rfl (Nat.zero_le _)
                            have L1 : AW γ mX12_unite 11 0 0 108 _ [] (mputs a (si H3 a 14 0) ([] ++ (wQry (qs x)).take 0)) _ := L1
                            rw [List.take_zero, List.append_nil] at L1
                            refine aw_aload_n dX12_unite_100 rfl ?_
                            refine aw_iconst dX12_unite_101 ?_
                            refine aw_puti' (j := 14) rfl dX12_unite_102 fX12_186 (by assumption) rfl ?_
                            refine aw_iconst dX12_unite_105 ?_
                            refine aw_istore (ls1 := [(5, _), (4, _), (0, _), (1, _), (2, _), (3, _)]) dX12_unite_106 (by decide) rfl ?_
                            refine aw_sub [0, 1, 2, 3, 4, 5] rfl ?_
                            exact L1
                          · exact absurd c87 (by omega)
                        · exact absurd c54 (by omega)
                      · exact absurd c39 (by omega)
                  · exact absurd c19 (by omega)
      · rw [if_pos (fun z => c3 z.2.2)]
        rw [if_neg c3] at KS
        refine Call.of (ls := [(0, vr (some a)), (1, vi p), (2, vi r), (3, vi s)]) vX12_unite.1 (Nat.le_of_ble_eq_true rfl) rfl ?_
        refine aw_aload_n dX12_unite_0 rfl ?_
        refine aw_iload_n dX12_unite_1 rfl ?_
        refine aw_invS_r dX12_unite_2 sX12_isPlace kX12_217 rfl (KP) rfl rfl (by decide) (by decide) (by decide) (Nat.le_of_ble_eq_true rfl) ?_
        refine aw_if_eq (tgt := 22) dX12_unite_5 rfl (by omega) (fun c5 => ?_) (fun c5 => ?_)
        · exact absurd c5 (by omega)
        · refine aw_iload_n dX12_unite_8 rfl ?_
          refine aw_invS_r dX12_unite_9 sX12_isPlace kX12_217 rfl (KR) rfl rfl (by decide) (by decide) (by decide) (Nat.le_of_ble_eq_true rfl) ?_
          refine aw_if_eq (tgt := 22) dX12_unite_12 rfl (by omega) (fun c12 => ?_) (fun c12 => ?_)
          · exact absurd c12 (by omega)
          · refine aw_iload_n dX12_unite_15 rfl ?_
            refine aw_invS_r dX12_unite_16 sX12_isPlace kX12_217 rfl (KS) rfl rfl (by decide) (by decide) (by decide) (Nat.le_of_ble_eq_true rfl) ?_
            refine aw_if_ne (tgt := 26) dX12_unite_19 rfl (by omega) (fun c19 => ?_) (fun c19 => ?_)
            · exact absurd c19 (by omega)
            · refine aw_iconst dX12_unite_22 ?_
              refine aw_goto (tgt := 47) dX12_unite_23 rfl ?_
              refine aw_puti' (j := 5) rfl dX12_unite_47 fX12_62 (by assumption) rfl ?_
              refine aw_aload_n dX12_unite_50 rfl ?_
              refine aw_geti' (j := 5) dX12_unite_51 fX12_62 rfl (by assumption) rfl (gi_at rfl rfl) ?_
              refine aw_if_eq (tgt := 59) dX12_unite_54 rfl (by omega) (fun c54 => ?_) (fun c54 => ?_)
              · exact absurd c54 (by omega)
              · refine aw_iconst dX12_unite_57 ?_
                exact aw_ireturn dX12_unite_58 rfl (Or.inl rfl) ⟨rfl, rM_err hF 1⟩
    · rw [if_pos (fun z => c2 z.2.1)]
      rw [if_neg c2] at KR
      refine Call.of (ls := [(0, vr (some a)), (1, vi p), (2, vi r), (3, vi s)]) vX12_unite.1 (Nat.le_of_ble_eq_true rfl) rfl ?_
      refine aw_aload_n dX12_unite_0 rfl ?_
      refine aw_iload_n dX12_unite_1 rfl ?_
      refine aw_invS_r dX12_unite_2 sX12_isPlace kX12_217 rfl (KP) rfl rfl (by decide) (by decide) (by decide) (Nat.le_of_ble_eq_true rfl) ?_
      refine aw_if_eq (tgt := 22) dX12_unite_5 rfl (by omega) (fun c5 => ?_) (fun c5 => ?_)
      · exact absurd c5 (by omega)
      · refine aw_iload_n dX12_unite_8 rfl ?_
        refine aw_invS_r dX12_unite_9 sX12_isPlace kX12_217 rfl (KR) rfl rfl (by decide) (by decide) (by decide) (Nat.le_of_ble_eq_true rfl) ?_
        refine aw_if_eq (tgt := 22) dX12_unite_12 rfl (by omega) (fun c12 => ?_) (fun c12 => ?_)
        · refine aw_iconst dX12_unite_22 ?_
          refine aw_goto (tgt := 47) dX12_unite_23 rfl ?_
          refine aw_puti' (j := 5) rfl dX12_unite_47 fX12_62 (by assumption) rfl ?_
          refine aw_aload_n dX12_unite_50 rfl ?_
          refine aw_geti' (j := 5) dX12_unite_51 fX12_62 rfl (by assumption) rfl (gi_at rfl rfl) ?_
          refine aw_if_eq (tgt := 59) dX12_unite_54 rfl (by omega) (fun c54 => ?_) (fun c54 => ?_)
          · exact absurd c54 (by omega)
          · refine aw_iconst dX12_unite_57 ?_
            exact aw_ireturn dX12_unite_58 rfl (Or.inl rfl) ⟨rfl, rM_err hF 1⟩
        · exact absurd c12 (by omega)
  · rw [if_pos (fun z => c1 z.1)]
    rw [if_neg c1] at KP
    refine Call.of (ls := [(0, vr (some a)), (1, vi p), (2, vi r), (3, vi s)]) vX12_unite.1 (Nat.le_of_ble_eq_true rfl) rfl ?_
    refine aw_aload_n dX12_unite_0 rfl ?_
    refine aw_iload_n dX12_unite_1 rfl ?_
    refine aw_invS_r dX12_unite_2 sX12_isPlace kX12_217 rfl (KP) rfl rfl (by decide) (by decide) (by decide) (Nat.le_of_ble_eq_true rfl) ?_
    refine aw_if_eq (tgt := 22) dX12_unite_5 rfl (by omega) (fun c5 => ?_) (fun c5 => ?_)
    · refine aw_iconst dX12_unite_22 ?_
      refine aw_goto (tgt := 47) dX12_unite_23 rfl ?_
      refine aw_puti' (j := 5) rfl dX12_unite_47 fX12_62 (by assumption) rfl ?_
      refine aw_aload_n dX12_unite_50 rfl ?_
      refine aw_geti' (j := 5) dX12_unite_51 fX12_62 rfl (by assumption) rfl (gi_at rfl rfl) ?_
      refine aw_if_eq (tgt := 59) dX12_unite_54 rfl (by omega) (fun c54 => ?_) (fun c54 => ?_)
      · exact absurd c54 (by omega)
      · refine aw_iconst dX12_unite_57 ?_
        exact aw_ireturn dX12_unite_58 rfl (Or.inl rfl) ⟨rfl, rM_err hF 1⟩
    · exact absurd c5 (by omega)
