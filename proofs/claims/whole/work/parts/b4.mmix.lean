/-! ===== the digest ===== -/
abbrev i6 (v : Int) : Int64 := (Int32.ofInt v).toInt64
abbrev mx9 (z : Int64) (v : Int) : Int64 := 31 * z + i6 v
def itr9 (f : Nat → Int64 → Int64) : Nat → Int64 → Int64
  | 0, z => z
  | n + 1, z => f n (itr9 f n z)
def hTr (T : Tr) (z : Int64) : Int64 := itr9 (fun v z => itr9 (fun k z => mx9 z (telT T v (k : Int))) 6 z) (tn T) z
def hSz (q : TQ) (z : Int64) : Int64 := itr9 (fun k z => mx9 z (sizV q (k : Int))) 6 z
def hWr (q : TQ) (z : Int64) : Int64 := itr9 (fun k z => mx9 z ((wQry q).getD k 0)) (wQry q).length z
def hSe (T : Tr) (q : TQ) (z : Int64) : Int64 := itr9 (fun c z => mx9 (mx9 z ((fb_ct (selF T q c) 40 : Nat) : Int)) (sumT T (selF T q c) (tn T))) (tn T) z
def hUs (q : TQ) (z : Int64) : Int64 := itr9 (fun r z => mx9 z ((rwQ q).2 (r + 1))) 9 z
def hPl (T : Tr) (q : TQ) (z : Int64) : Int64 := hUs q (hSe T q (hWr q (hSz q z)))
def hPp (T : Tr) (qs : Nat → TQ) (p : Nat) (z : Int64) : Int64 := if qs p = [] then mx9 z 0 else hPl T (qs p) (mx9 z 1)
def dgS (F : FS) : Int64 := itr9 (hPp F.1.1 F.1.2) 4 (hTr F.1.1 (mx9 (mx9 (mx9 18335 (F.2.1.length : Int)) (F.2.2.length : Int)) (tn F.1.1 : Int)))
theorem eqG_O {S : Nat → Int → Prop} {h h' : AH} {lo hi : Nat} (e : eqG S h h') (hs : ∀ b j, S b j → lo ≤ b ∧ b < hi) : eqO h h' lo hi := ⟨e.2.2.2.1, fun b hb => ⟨e.1 b, fun j => ⟨e.2.2.2.2 b j (fun z => by have := hs b j z; omega), e.2.2.1 b j, e.2.1 b j⟩⟩⟩
theorem SK_in {a : Nat} : ∀ b j, SK a b j → a ≤ b ∧ b < a + 18 := fun b j z => by unfold SK at z; omega
def dSt (h : AH) (a : Nat) (F : FS) (z : Int64) (H : AH) : Prop := isF H a F ∧ gl H a 25 = z ∧ gi H a 5 = 0 ∧ eqO h H a (a + 18)
theorem dSt.k {S : Nat → Int → Prop} {h H H' : AH} {a : Nat} {F : FS} {z : Int64} (d : dSt h a F z H) (e : eqG S H H') (hs : ∀ b j, S b j → SK a b j) (h5 : ¬ S a 5) : dSt h a F z H' := ⟨isMd.eqk d.1 (e.mono hs), (e.2.2.1 a 25).trans d.2.1, (e.2.2.2.2 a 5 h5).trans d.2.2.1, d.2.2.2.tr (eqG_O (e.mono hs) SK_in)⟩
theorem dSt0 {h H : AH} {a : Nat} {F : FS} {z : Int64} {f : Nat → Int64 → Int64} (d : dSt h a F z H) : dSt h a F (itr9 f 0 z) H := d
theorem dSt.mix {h H : AH} {a : Nat} {F : FS} {z x y : Int64} (d : dSt h a F z H) (e : x = y) : dSt h a F y (sl H a 25 x) := ⟨d.1, e ▸ gl_at rfl rfl, d.2.2.1, d.2.2.2.tr (eqO.sl (by omega) (by omega))⟩
theorem m_mix {γ : GG} {h : AH} {a : Nat} {z x : Int64} (hM : shM h a) (hz : gl h a 25 = z) : Call γ mX12_mix 0 0 0 [vr (some a), vl x] h (rN (sl h a 25 (31 * z + x))) := by
  obtain ⟨hka, -, -⟩ := hM.q
  refine Call.of (ls := [(0, vr (some a)), (1, vl x)]) vX12_mix.1 (Nat.le_of_ble_eq_true rfl) rfl ?_
  refine aw_aload_n dX12_mix_0 rfl ?_
  refine aw_ldc2 dX12_mix_1 qX12_336 ?_
  refine aw_aload_n dX12_mix_4 rfl ?_
  refine aw_getl' (j := 25) dX12_mix_5 fX12_338 rfl (by assumption) rfl hz ?_
  refine aw_lmul dX12_mix_8 ?_
  refine aw_lload_n dX12_mix_9 rfl ?_
  refine aw_ladd dX12_mix_10 ?_
  refine aw_putl' (j := 25) rfl dX12_mix_11 fX12_338 (by assumption) rfl ?_
  exact aw_return dX12_mix_14 rfl (Or.inl rfl) ⟨rfl, rfl⟩
theorem i_mp1 {γ : GG} {a p : Nat} {F : FS} {z : Int64} {h : AH} {Q : AR → AH → Prop} (hp : p < 4) (hne : F.1.2 p ≠ []) (kk : ∀ H, dSt h a F (itr9 (fun k z => mx9 z (sizV (F.1.2 p) (k : Int))) (6) z) H → gQ (gi H (a + 7)) (F.1.2 p) → AW γ mX12_mixPlace 12 0 0 30 [(0, vr (some a)), (1, vi (p : Int))] [] H Q) : ∀ (m k : Nat) (H : AH), k + m = 6 → dSt h a F (itr9 (fun k z => mx9 z (sizV (F.1.2 p) (k : Int))) k z) H → gQ (gi H (a + 7)) (F.1.2 p) → AW γ mX12_mixPlace 12 0 0 7 [(2, vi ((k : Int))), (0, vr (some a)), (1, vi (p : Int))] [] H Q := by
  intro m
  induction m with
  | zero =>
    intro k H hk dd gg 
    have K := kk H (by have hk : k = 6 := by omega
                       subst hk; exact dd) gg
    obtain ⟨S, U, tx⟩ := F
    obtain ⟨T, qs⟩ := S
    have hm : isMd H a (T, qs) U tx := dd.1
    have oT : okTr T := hm.2.2.1.1
    have n40 := oT.o.2.1
    obtain ⟨hka, rq, kq⟩ := hm.1.q
    obtain ⟨rm, km⟩ := hm.1.m
    have g0 : gi H (a + 1) 0 = (tn T : Int) := hm.2.1.1.1
    have oq : okQ (qs p) ∧ lnQ (qs p) := hm.2.2.1.2 p hp
    have gg : gQ (gi H (a + 7)) (qs p) := gg
    have w0 : gi H (a + 1) (121 + (p : Int)) = ((wQry (qs p)).length : Int) := by have := (hm.2.1.2 p hp).1; rw [show (0 : Int) + 121 + (p : Int) = 121 + (p : Int) by omega] at this; exact this
    have w2 : ∀ (k : Nat) (c : Int), (wQry (qs p))[k]? = some c → gi H (a + 1) (125 + 400 * (p : Int) + (k : Int)) = c := fun k c hk => by have := (hm.2.1.2 p hp).2 k c hk; rw [show (0 : Int) + 125 + 400 * (p : Int) + (k : Int) = 125 + 400 * (p : Int) + (k : Int) by omega] at this; exact this
    have bw := wQry_le oq.1 oq.2
    obtain rfl : k = 6 := hk
    refine aw_iload_n dX12_mixPlace_7 rfl ?_
    refine aw_bipush dX12_mixPlace_8 rfl ?_
    refine aw_ic_ge (tgt := 30) dX12_mixPlace_10 rfl (by omega) (by omega) (fun c10 => ?_) (fun c10 => ?_)
    · refine aw_sub [1, 2] rfl ?_
      exact K
    · exact absurd c10 (by omega)
  | succ m ih =>
    intro k H hk dd gg 
    have I := fun H1 d1 g1 => ih (k + 1) H1 (by omega) d1 g1
    have kl : k < 6 := by omega
    obtain ⟨S, U, tx⟩ := F
    obtain ⟨T, qs⟩ := S
    have hm : isMd H a (T, qs) U tx := dd.1
    have oT : okTr T := hm.2.2.1.1
    have n40 := oT.o.2.1
    obtain ⟨hka, rq, kq⟩ := hm.1.q
    obtain ⟨rm, km⟩ := hm.1.m
    have g0 : gi H (a + 1) 0 = (tn T : Int) := hm.2.1.1.1
    have oq : okQ (qs p) ∧ lnQ (qs p) := hm.2.2.1.2 p hp
    have gg : gQ (gi H (a + 7)) (qs p) := gg
    have w0 : gi H (a + 1) (121 + (p : Int)) = ((wQry (qs p)).length : Int) := by have := (hm.2.1.2 p hp).1; rw [show (0 : Int) + 121 + (p : Int) = 121 + (p : Int) by omega] at this; exact this
    have w2 : ∀ (k : Nat) (c : Int), (wQry (qs p))[k]? = some c → gi H (a + 1) (125 + 400 * (p : Int) + (k : Int)) = c := fun k c hk => by have := (hm.2.1.2 p hp).2 k c hk; rw [show (0 : Int) + 125 + 400 * (p : Int) + (k : Int) = 125 + 400 * (p : Int) + (k : Int) by omega] at this; exact this
    have bw := wQry_le oq.1 oq.2
    have KZ := m_sizeOf (γ := γ) (pl := (p : Int)) (wh := (k : Int)) hm.1 oq.1 gg (by omega) (by omega) w0
    refine aw_iload_n dX12_mixPlace_7 rfl ?_
    refine aw_bipush dX12_mixPlace_8 rfl ?_
    refine aw_ic_ge (tgt := 30) dX12_mixPlace_10 rfl (by omega) (by omega) (fun c10 => ?_) (fun c10 => ?_)
    · exact absurd c10 (by omega)
    · refine aw_aload_n dX12_mixPlace_13 rfl ?_
      refine aw_aload_n dX12_mixPlace_14 rfl ?_
      refine aw_iload_n dX12_mixPlace_15 rfl ?_
      refine aw_iload_n dX12_mixPlace_16 rfl ?_
      refine aw_invV_e dX12_mixPlace_17 vX12_sizeOf kX12_238 rfl (KZ) ⟨_, (by assumption), _, _, rfl⟩ rfl rfl (by decide) (by decide) (by decide) (Nat.le_of_ble_eq_true rfl) (fun H1 hP9 => ?_)
      have E1 := hP9
      have d1 := dd.k E1 SZ_k (by unfold SZ; omega)
      have KX := m_mix (γ := γ) (x := i6 (sizV (qs p) (k : Int))) d1.1.1 d1.2.1
      have hka1 := d1.1.1.1
      refine aw_i2l dX12_mixPlace_20 rfl ?_
      refine aw_invV_n dX12_mixPlace_21 vX12_mix kX12_342 rfl (KX) ⟨_, (by assumption), _, _, rfl⟩ rfl rfl (by decide) (by decide) (by decide) (Nat.le_of_ble_eq_true rfl) ?_
      refine aw_iinc (k9 := 0) (ls1 := [(2, _), (0, _), (1, _)]) dX12_mixPlace_24 rfl (by decide) rfl ?_
      refine aw_goto (tgt := 7) dX12_mixPlace_27 rfl ?_
      refine aw_sub [0, 1, 2] rfl ?_
      exact I _ (d1.mix rfl) (by show gQ (gi H1 (a + 7)) (qs p); rw [q_k E1 (fun j => by unfold SZ; omega)]; exact gg)
theorem i_mp2 {γ : GG} {a p : Nat} {F : FS} {z : Int64} {h : AH} {Q : AR → AH → Prop} (hp : p < 4) (hne : F.1.2 p ≠ []) (kk : ∀ H, dSt h a F (itr9 (fun k z => mx9 z ((wQry (F.1.2 p)).getD k 0)) ((wQry (F.1.2 p)).length) z) H → gQ (gi H (a + 7)) (F.1.2 p) → AW γ mX12_mixPlace 12 0 0 71 [(0, vr (some a)), (1, vi (p : Int))] [] H Q) : ∀ (m k : Nat) (H : AH), k + m = (wQry (F.1.2 p)).length → dSt h a F (itr9 (fun k z => mx9 z ((wQry (F.1.2 p)).getD k 0)) k z) H → gQ (gi H (a + 7)) (F.1.2 p) → AW γ mX12_mixPlace 12 0 0 32 [(2, vi ((k : Int))), (0, vr (some a)), (1, vi (p : Int))] [] H Q := by
  intro m
  induction m with
  | zero =>
    intro k H hk dd gg 
    have K := kk H (by have hk : k = (wQry (F.1.2 p)).length := by omega
                       subst hk; exact dd) gg
    obtain ⟨S, U, tx⟩ := F
    obtain ⟨T, qs⟩ := S
    have hm : isMd H a (T, qs) U tx := dd.1
    have oT : okTr T := hm.2.2.1.1
    have n40 := oT.o.2.1
    obtain ⟨hka, rq, kq⟩ := hm.1.q
    obtain ⟨rm, km⟩ := hm.1.m
    have g0 : gi H (a + 1) 0 = (tn T : Int) := hm.2.1.1.1
    have oq : okQ (qs p) ∧ lnQ (qs p) := hm.2.2.1.2 p hp
    have gg : gQ (gi H (a + 7)) (qs p) := gg
    have w0 : gi H (a + 1) (121 + (p : Int)) = ((wQry (qs p)).length : Int) := by have := (hm.2.1.2 p hp).1; rw [show (0 : Int) + 121 + (p : Int) = 121 + (p : Int) by omega] at this; exact this
    have w2 : ∀ (k : Nat) (c : Int), (wQry (qs p))[k]? = some c → gi H (a + 1) (125 + 400 * (p : Int) + (k : Int)) = c := fun k c hk => by have := (hm.2.1.2 p hp).2 k c hk; rw [show (0 : Int) + 125 + 400 * (p : Int) + (k : Int) = 125 + 400 * (p : Int) + (k : Int) by omega] at this; exact this
    have bw := wQry_le oq.1 oq.2
    obtain rfl : k = (wQry (qs p)).length := hk
    refine aw_iload_n dX12_mixPlace_32 rfl ?_
    refine aw_aload_n dX12_mixPlace_33 rfl ?_
    refine aw_getr' (j := 0) dX12_mixPlace_34 fX12_7 rfl (by assumption) rfl (by assumption) ?_
    refine aw_bipush dX12_mixPlace_37 rfl ?_
    refine aw_iload_n dX12_mixPlace_39 rfl ?_
    refine aw_iadd dX12_mixPlace_40 ?_
    refine aw_iald' dX12_mixPlace_41 (by assumption) (by omega) (by first | decide | omega) w0 ?_
    refine aw_ic_ge (tgt := 71) dX12_mixPlace_42 rfl (by omega) (by omega) (fun c42 => ?_) (fun c42 => ?_)
    · refine aw_sub [1, 2] rfl ?_
      exact K
    · exact absurd c42 (by omega)
  | succ m ih =>
    intro k H hk dd gg 
    have I := fun H1 d1 g1 => ih (k + 1) H1 (by omega) d1 g1
    have kl : k < (wQry (F.1.2 p)).length := by omega
    obtain ⟨S, U, tx⟩ := F
    obtain ⟨T, qs⟩ := S
    have hm : isMd H a (T, qs) U tx := dd.1
    have oT : okTr T := hm.2.2.1.1
    have n40 := oT.o.2.1
    obtain ⟨hka, rq, kq⟩ := hm.1.q
    obtain ⟨rm, km⟩ := hm.1.m
    have g0 : gi H (a + 1) 0 = (tn T : Int) := hm.2.1.1.1
    have oq : okQ (qs p) ∧ lnQ (qs p) := hm.2.2.1.2 p hp
    have gg : gQ (gi H (a + 7)) (qs p) := gg
    have w0 : gi H (a + 1) (121 + (p : Int)) = ((wQry (qs p)).length : Int) := by have := (hm.2.1.2 p hp).1; rw [show (0 : Int) + 121 + (p : Int) = 121 + (p : Int) by omega] at this; exact this
    have w2 : ∀ (k : Nat) (c : Int), (wQry (qs p))[k]? = some c → gi H (a + 1) (125 + 400 * (p : Int) + (k : Int)) = c := fun k c hk => by have := (hm.2.1.2 p hp).2 k c hk; rw [show (0 : Int) + 125 + 400 * (p : Int) + (k : Int) = 125 + 400 * (p : Int) + (k : Int) by omega] at this; exact this
    have bw := wQry_le oq.1 oq.2
    have kl : k < (wQry (qs p)).length := kl
    obtain ⟨c, hc⟩ : ∃ c, (wQry (qs p))[k]? = some c := ⟨_, List.getElem?_eq_getElem kl⟩
    have gc := w2 k c hc
    have ec : (wQry (qs p)).getD k 0 = c := by rw [List.getD_eq_getElem?_getD, hc]; rfl
    have KX := m_mix (γ := γ) (x := i6 c) hm.1 dd.2.1
    refine aw_iload_n dX12_mixPlace_32 rfl ?_
    refine aw_aload_n dX12_mixPlace_33 rfl ?_
    refine aw_getr' (j := 0) dX12_mixPlace_34 fX12_7 rfl (by assumption) rfl (by assumption) ?_
    refine aw_bipush dX12_mixPlace_37 rfl ?_
    refine aw_iload_n dX12_mixPlace_39 rfl ?_
    refine aw_iadd dX12_mixPlace_40 ?_
    refine aw_iald' dX12_mixPlace_41 (by assumption) (by omega) (by first | decide | omega) w0 ?_
    refine aw_ic_ge (tgt := 71) dX12_mixPlace_42 rfl (by omega) (by omega) (fun c42 => ?_) (fun c42 => ?_)
    · exact absurd c42 (by omega)
    · refine aw_aload_n dX12_mixPlace_45 rfl ?_
      refine aw_aload_n dX12_mixPlace_46 rfl ?_
      refine aw_getr' (j := 0) dX12_mixPlace_47 fX12_7 rfl (by assumption) rfl (by assumption) ?_
      refine aw_bipush dX12_mixPlace_50 rfl ?_
      refine aw_sipush dX12_mixPlace_52 rfl ?_
      refine aw_iload_n dX12_mixPlace_55 rfl ?_
      refine aw_imul dX12_mixPlace_56 ?_
      refine aw_iadd dX12_mixPlace_57 ?_
      refine aw_iload_n dX12_mixPlace_58 rfl ?_
      refine aw_iadd dX12_mixPlace_59 ?_
      refine aw_iald' dX12_mixPlace_60 (by assumption) (by omega) (by first | decide | omega) gc ?_
      refine aw_i2l dX12_mixPlace_61 rfl ?_
      refine aw_invV_n dX12_mixPlace_62 vX12_mix kX12_342 rfl (KX) ⟨_, (by assumption), _, _, rfl⟩ rfl rfl (by decide) (by decide) (by decide) (Nat.le_of_ble_eq_true rfl) ?_
      refine aw_iinc (k9 := 0) (ls1 := [(2, _), (0, _), (1, _)]) dX12_mixPlace_65 rfl (by decide) rfl ?_
      refine aw_goto (tgt := 32) dX12_mixPlace_68 rfl ?_
      refine aw_sub [0, 1, 2] rfl ?_
      exact I _ (dd.mix (by show _ = mx9 _ ((wQry (qs p)).getD k 0); rw [ec])) gg
theorem i_mp3 {γ : GG} {a p : Nat} {F : FS} {z : Int64} {h : AH} {Q : AR → AH → Prop} (hp : p < 4) (hne : F.1.2 p ≠ []) (kk : ∀ H, dSt h a F (itr9 (fun c z => mx9 (mx9 z ((fb_ct (selF F.1.1 (F.1.2 p) c) 40 : Nat) : Int)) (sumT F.1.1 (selF F.1.1 (F.1.2 p) c) (tn F.1.1))) (tn F.1.1) z) H → gQ (gi H (a + 7)) (F.1.2 p) → AW γ mX12_mixPlace 12 0 0 112 [(0, vr (some a)), (1, vi (p : Int))] [] H Q) : ∀ (m k : Nat) (H : AH), k + m = tn F.1.1 → dSt h a F (itr9 (fun c z => mx9 (mx9 z ((fb_ct (selF F.1.1 (F.1.2 p) c) 40 : Nat) : Int)) (sumT F.1.1 (selF F.1.1 (F.1.2 p) c) (tn F.1.1))) k z) H → gQ (gi H (a + 7)) (F.1.2 p) → AW γ mX12_mixPlace 12 0 0 73 [(2, vi ((k : Int))), (0, vr (some a)), (1, vi (p : Int))] [] H Q := by
  intro m
  induction m with
  | zero =>
    intro k H hk dd gg 
    have K := kk H (by have hk : k = tn F.1.1 := by omega
                       subst hk; exact dd) gg
    obtain ⟨S, U, tx⟩ := F
    obtain ⟨T, qs⟩ := S
    have hm : isMd H a (T, qs) U tx := dd.1
    have oT : okTr T := hm.2.2.1.1
    have n40 := oT.o.2.1
    obtain ⟨hka, rq, kq⟩ := hm.1.q
    obtain ⟨rm, km⟩ := hm.1.m
    have g0 : gi H (a + 1) 0 = (tn T : Int) := hm.2.1.1.1
    have oq : okQ (qs p) ∧ lnQ (qs p) := hm.2.2.1.2 p hp
    have gg : gQ (gi H (a + 7)) (qs p) := gg
    have w0 : gi H (a + 1) (121 + (p : Int)) = ((wQry (qs p)).length : Int) := by have := (hm.2.1.2 p hp).1; rw [show (0 : Int) + 121 + (p : Int) = 121 + (p : Int) by omega] at this; exact this
    have w2 : ∀ (k : Nat) (c : Int), (wQry (qs p))[k]? = some c → gi H (a + 1) (125 + 400 * (p : Int) + (k : Int)) = c := fun k c hk => by have := (hm.2.1.2 p hp).2 k c hk; rw [show (0 : Int) + 125 + 400 * (p : Int) + (k : Int) = 125 + 400 * (p : Int) + (k : Int) by omega] at this; exact this
    have bw := wQry_le oq.1 oq.2
    obtain rfl : k = tn T := hk
    refine aw_iload_n dX12_mixPlace_73 rfl ?_
    refine aw_aload_n dX12_mixPlace_74 rfl ?_
    refine aw_getr' (j := 0) dX12_mixPlace_75 fX12_7 rfl (by assumption) rfl (by assumption) ?_
    refine aw_iconst dX12_mixPlace_78 ?_
    refine aw_iald' dX12_mixPlace_79 (by assumption) (by omega) (by first | decide | omega) g0 ?_
    refine aw_ic_ge (tgt := 112) dX12_mixPlace_80 rfl (by omega) (by omega) (fun c80 => ?_) (fun c80 => ?_)
    · refine aw_sub [1, 2] rfl ?_
      exact K
    · exact absurd c80 (by omega)
  | succ m ih =>
    intro k H hk dd gg 
    have I := fun H1 d1 g1 => ih (k + 1) H1 (by omega) d1 g1
    have kl : k < tn F.1.1 := by omega
    obtain ⟨S, U, tx⟩ := F
    obtain ⟨T, qs⟩ := S
    have hm : isMd H a (T, qs) U tx := dd.1
    have oT : okTr T := hm.2.2.1.1
    have n40 := oT.o.2.1
    obtain ⟨hka, rq, kq⟩ := hm.1.q
    obtain ⟨rm, km⟩ := hm.1.m
    have g0 : gi H (a + 1) 0 = (tn T : Int) := hm.2.1.1.1
    have oq : okQ (qs p) ∧ lnQ (qs p) := hm.2.2.1.2 p hp
    have gg : gQ (gi H (a + 7)) (qs p) := gg
    have w0 : gi H (a + 1) (121 + (p : Int)) = ((wQry (qs p)).length : Int) := by have := (hm.2.1.2 p hp).1; rw [show (0 : Int) + 121 + (p : Int) = 121 + (p : Int) by omega] at this; exact this
    have w2 : ∀ (k : Nat) (c : Int), (wQry (qs p))[k]? = some c → gi H (a + 1) (125 + 400 * (p : Int) + (k : Int)) = c := fun k c hk => by have := (hm.2.1.2 p hp).2 k c hk; rw [show (0 : Int) + 125 + 400 * (p : Int) + (k : Int) = 125 + 400 * (p : Int) + (k : Int) by omega] at this; exact this
    have bw := wQry_le oq.1 oq.2
    have kl : k < tn T := kl
    have KS := m_select (γ := γ) (T := T) (q := qs p) hm.1 hm.2.1.1 oT kl oq.1 gg
    refine aw_iload_n dX12_mixPlace_73 rfl ?_
    refine aw_aload_n dX12_mixPlace_74 rfl ?_
    refine aw_getr' (j := 0) dX12_mixPlace_75 fX12_7 rfl (by assumption) rfl (by assumption) ?_
    refine aw_iconst dX12_mixPlace_78 ?_
    refine aw_iald' dX12_mixPlace_79 (by assumption) (by omega) (by first | decide | omega) g0 ?_
    refine aw_ic_ge (tgt := 112) dX12_mixPlace_80 rfl (by omega) (by omega) (fun c80 => ?_) (fun c80 => ?_)
    · exact absurd c80 (by omega)
    · refine aw_aload_n dX12_mixPlace_83 rfl ?_
      refine aw_iload_n dX12_mixPlace_84 rfl ?_
      refine aw_invV_f dX12_mixPlace_85 vX12_select kX12_266 rfl (KS) ⟨_, (by assumption), _, _, rfl⟩ rfl rfl (by decide) (by decide) (by decide) (Nat.le_of_ble_eq_true rfl) (fun H1 hP9 => ?_)
      obtain ⟨B1, E1⟩ := hP9
      have d1 := dd.k E1 SSe_k (by unfold SSe SPt SGv SXt SI; omega)
      have m1 : isMd H1 a (T, qs) U tx := d1.1
      have B1 : isBo H1 (a + 15) (selF T (qs p) k) 40 := B1
      have hka1 := m1.1.1
      have KC := m_selectedCount (γ := γ) (T := T) (f := selF T (qs p) k) m1.1 m1.2.1.1 oT (bo_le B1 n40)
      rw [← sel_40 oT kl] at KC
      obtain ⟨Y, hY⟩ : ∃ Y, Y = gl H1 a 25 := ⟨_, rfl⟩
      have dY : dSt h a ((T, qs), U, tx) Y H1 := ⟨d1.1, hY.symm, d1.2.2⟩
      have KX := m_mix (γ := γ) (x := i6 ((fb_ct (selF T (qs p) k) 40 : Nat) : Int)) m1.1 dY.2.1
      refine aw_aload_n dX12_mixPlace_88 rfl ?_
      refine aw_aload_n dX12_mixPlace_89 rfl ?_
      refine aw_invV_r dX12_mixPlace_90 vX12_selectedCount kX12_269 rfl (KC) ⟨_, (by assumption), _, _, rfl⟩ rfl rfl (by decide) (by decide) (by decide) (Nat.le_of_ble_eq_true rfl) ?_
      refine aw_i2l dX12_mixPlace_93 rfl ?_
      refine aw_invV_n dX12_mixPlace_94 vX12_mix kX12_342 rfl (KX) ⟨_, (by assumption), _, _, rfl⟩ rfl rfl (by decide) (by decide) (by decide) (Nat.le_of_ble_eq_true rfl) ?_
      have d2 := dY.mix (x := mx9 Y ((fb_ct (selF T (qs p) k) 40 : Nat) : Int)) (y := mx9 Y ((fb_ct (selF T (qs p) k) 40 : Nat) : Int)) rfl
      have m2 : isMd (sl H1 a 25 (mx9 Y ((fb_ct (selF T (qs p) k) 40 : Nat) : Int))) a (T, qs) U tx := d2.1
      have hka2 := m2.1.1
      have KM := m_selectedSum (γ := γ) (T := T) (f := selF T (qs p) k) m2.1 m2.2.1.1 oT (bo_le (show isBo (sl H1 a 25 _) (a + 15) (selF T (qs p) k) 40 from B1) n40)
      have KY := m_mix (γ := γ) (x := i6 (sumT T (selF T (qs p) k) (tn T))) m2.1 d2.2.1
      refine aw_aload_n dX12_mixPlace_97 rfl ?_
      refine aw_aload_n dX12_mixPlace_98 rfl ?_
      refine aw_invV_r dX12_mixPlace_99 vX12_selectedSum kX12_272 rfl (KM) ⟨_, (by assumption), _, _, rfl⟩ rfl rfl (by decide) (by decide) (by decide) (Nat.le_of_ble_eq_true rfl) ?_
      refine aw_i2l dX12_mixPlace_102 rfl ?_
      refine aw_invV_n dX12_mixPlace_103 vX12_mix kX12_342 rfl (KY) ⟨_, (by assumption), _, _, rfl⟩ rfl rfl (by decide) (by decide) (by decide) (Nat.le_of_ble_eq_true rfl) ?_
      refine aw_iinc (k9 := 0) (ls1 := [(2, _), (0, _), (1, _)]) dX12_mixPlace_106 rfl (by decide) rfl ?_
      refine aw_goto (tgt := 73) dX12_mixPlace_109 rfl ?_
      refine aw_sub [0, 1, 2] rfl ?_
      exact I _ (d2.mix (by have e := hY.trans d1.2.1; subst e; rfl)) (by show gQ (gi H1 (a + 7)) (qs p); rw [q_k E1 SSe_7]; exact gg)
theorem i_mp4 {γ : GG} {a p : Nat} {F : FS} {z : Int64} {h : AH} {Q : AR → AH → Prop} (hp : p < 4) (hne : F.1.2 p ≠ []) (kk : ∀ H, dSt h a F (itr9 (fun r z => mx9 z ((rwQ (F.1.2 p)).2 (r + 1))) (9) z) H → uM H a (rwQ (F.1.2 p)).2 → AW γ mX12_mixPlace 12 0 0 141 [(0, vr (some a)), (1, vi (p : Int))] [] H Q) : ∀ (m k : Nat) (H : AH), k + m = 9 → dSt h a F (itr9 (fun r z => mx9 z ((rwQ (F.1.2 p)).2 (r + 1))) k z) H → uM H a (rwQ (F.1.2 p)).2 → AW γ mX12_mixPlace 12 0 0 118 [(2, vi (((k + 1 : Nat) : Int))), (0, vr (some a)), (1, vi (p : Int))] [] H Q := by
  intro m
  induction m with
  | zero =>
    intro k H hk dd gg 
    have K := kk H (by have hk : k = 9 := by omega
                       subst hk; exact dd) gg
    obtain ⟨S, U, tx⟩ := F
    obtain ⟨T, qs⟩ := S
    have hm : isMd H a (T, qs) U tx := dd.1
    have oT : okTr T := hm.2.2.1.1
    have n40 := oT.o.2.1
    obtain ⟨hka, rq, kq⟩ := hm.1.q
    obtain ⟨rm, km⟩ := hm.1.m
    have g0 : gi H (a + 1) 0 = (tn T : Int) := hm.2.1.1.1
    obtain rfl : k = 9 := hk
    refine aw_iload_n dX12_mixPlace_118 rfl ?_
    refine aw_bipush dX12_mixPlace_119 rfl ?_
    refine aw_ic_ge (tgt := 141) dX12_mixPlace_121 rfl (by omega) (by omega) (fun c121 => ?_) (fun c121 => ?_)
    · refine aw_sub [1, 2] rfl ?_
      exact K
    · exact absurd c121 (by omega)
  | succ m ih =>
    intro k H hk dd gg 
    have I := fun H1 d1 g1 => ih (k + 1) H1 (by omega) d1 g1
    have kl : k < 9 := by omega
    obtain ⟨S, U, tx⟩ := F
    obtain ⟨T, qs⟩ := S
    have hm : isMd H a (T, qs) U tx := dd.1
    have oT : okTr T := hm.2.2.1.1
    have n40 := oT.o.2.1
    obtain ⟨hka, rq, kq⟩ := hm.1.q
    obtain ⟨rm, km⟩ := hm.1.m
    have g0 : gi H (a + 1) 0 = (tn T : Int) := hm.2.1.1.1
    have gu : gi H (a + 17) ((k + 1 : Nat) : Int) = (rwQ (qs p)).2 (k + 1) := gg (k + 1) (by omega) (by omega)
    obtain ⟨ru, ku⟩ := hm.1.u9
    have KX := m_mix (γ := γ) (x := i6 ((rwQ (qs p)).2 (k + 1))) hm.1 dd.2.1
    refine aw_iload_n dX12_mixPlace_118 rfl ?_
    refine aw_bipush dX12_mixPlace_119 rfl ?_
    refine aw_ic_ge (tgt := 141) dX12_mixPlace_121 rfl (by omega) (by omega) (fun c121 => ?_) (fun c121 => ?_)
    · exact absurd c121 (by omega)
    · refine aw_aload_n dX12_mixPlace_124 rfl ?_
      refine aw_aload_n dX12_mixPlace_125 rfl ?_
      refine aw_getr' (j := 24) dX12_mixPlace_126 fX12_59 rfl (by assumption) rfl (by assumption) ?_
      refine aw_iload_n dX12_mixPlace_129 rfl ?_
      refine aw_iald' dX12_mixPlace_130 (by assumption) (by omega) (by first | decide | omega) gu ?_
      refine aw_i2l dX12_mixPlace_131 rfl ?_
      refine aw_invV_n dX12_mixPlace_132 vX12_mix kX12_342 rfl (KX) ⟨_, (by assumption), _, _, rfl⟩ rfl rfl (by decide) (by decide) (by decide) (Nat.le_of_ble_eq_true rfl) ?_
      refine aw_iinc (k9 := 0) (ls1 := [(2, _), (0, _), (1, _)]) dX12_mixPlace_135 rfl (by decide) rfl ?_
      refine aw_goto (tgt := 118) dX12_mixPlace_138 rfl ?_
      refine aw_sub [0, 1, 2] rfl ?_
      exact I _ (dd.mix rfl) gg
theorem m_mixPlace {γ : GG} {h : AH} {a p : Nat} {F : FS} {z : Int64} {H : AH} (dd : dSt h a F z H) (hp : p < 4) (hne : F.1.2 p ≠ []) : Call γ mX12_mixPlace 12 0 0 [vr (some a), vi (p : Int)] H (rF (dSt h a F (hPl F.1.1 (F.1.2 p) z))) := by
  have hm0 : isMd H a F.1 F.2.1 F.2.2 := dd.1
  have hka := hm0.1.1
  have oq := hm0.2.2.1.2 p hp
  have KT := m_take9 (γ := γ) hm0 hp hne
  have L1 := fun H1 d1 g1 => i_mp1 (γ := γ) (a := a) (p := p) (F := F) (z := z) (h := h) (Q := rF (dSt h a F (hPl F.1.1 (F.1.2 p) z))) hp hne (fun H2 d2 g2 => by
    have L2 := i_mp2 (γ := γ) (a := a) (p := p) (F := F) (h := h) (z := hSz (F.1.2 p) z) (Q := rF (dSt h a F (hPl F.1.1 (F.1.2 p) z))) hp hne (fun H3 d3 g3 => by
      have L3 := i_mp3 (γ := γ) (a := a) (p := p) (F := F) (h := h) (z := hWr (F.1.2 p) (hSz (F.1.2 p) z)) (Q := rF (dSt h a F (hPl F.1.1 (F.1.2 p) z))) hp hne (fun H4 d4 g4 => by
        have m4 : isMd H4 a F.1 F.2.1 F.2.2 := d4.1
        have hka4 := m4.1.1
        have KW := m_rewriteAll (γ := γ) m4.1 g4 oq.1 oq.2 (one_le hne)
        have L4 := fun H5 d5 u5 => i_mp4 (γ := γ) (a := a) (p := p) (F := F) (h := h) (z := hSe F.1.1 (F.1.2 p) (hWr (F.1.2 p) (hSz (F.1.2 p) z))) (Q := rF (dSt h a F (hPl F.1.1 (F.1.2 p) z))) hp hne (fun H6 d6 u6 => by
          exact aw_return dX12_mixPlace_141 rfl (Or.inl rfl) ⟨rfl, d6⟩) 9 0 H5 rfl (dSt0 d5) u5
        refine aw_aload_n dX12_mixPlace_112 rfl ?_
        refine aw_invV_f dX12_mixPlace_113 vX12_rewriteAll kX12_333 rfl (KW) ⟨_, (by assumption), _, _, rfl⟩ rfl rfl (by decide) (by decide) (by decide) (Nat.le_of_ble_eq_true rfl) (fun H5 hP9 => ?_)
        obtain ⟨G5, O5, W5, E5, U5⟩ := hP9
        refine aw_iconst dX12_mixPlace_116 ?_
        refine aw_istore_n (ls1 := [(2, _), (0, _), (1, _)]) dX12_mixPlace_117 (by decide) rfl ?_
        refine aw_sub [0, 1, 2] rfl ?_
        exact L4 H5 ((show dSt h a F (hSe F.1.1 (F.1.2 p) (hWr (F.1.2 p) (hSz (F.1.2 p) z))) H4 from d4).k E5 SX_k SX_5) U5) (tn F.1.1) 0 H3 (Nat.zero_add _) (dSt0 (show dSt h a F (hWr (F.1.2 p) (hSz (F.1.2 p) z)) H3 from d3)) g3
      refine aw_iconst dX12_mixPlace_71 ?_
      refine aw_istore_n (ls1 := [(2, _), (0, _), (1, _)]) dX12_mixPlace_72 (by decide) rfl ?_
      refine aw_sub [0, 1, 2] rfl ?_
      exact L3) (wQry (F.1.2 p)).length 0 H2 (Nat.zero_add _) (dSt0 (show dSt h a F (hSz (F.1.2 p) z) H2 from d2)) g2
    refine aw_iconst dX12_mixPlace_30 ?_
    refine aw_istore_n (ls1 := [(2, _), (0, _), (1, _)]) dX12_mixPlace_31 (by decide) rfl ?_
    refine aw_sub [0, 1, 2] rfl ?_
    exact L2) 6 0 H1 rfl (dSt0 d1) g1
  refine Call.of (ls := [(0, vr (some a)), (1, vi (p : Int))]) vX12_mixPlace.1 (Nat.le_of_ble_eq_true rfl) rfl ?_
  refine aw_aload_n dX12_mixPlace_0 rfl ?_
  refine aw_iload_n dX12_mixPlace_1 rfl ?_
  refine aw_invV_f dX12_mixPlace_2 vX12_take kX12_235 rfl (KT) ⟨_, (by assumption), _, _, rfl⟩ rfl rfl (by decide) (by decide) (by decide) (Nat.le_of_ble_eq_true rfl) (fun H1 hP9 => ?_)
  obtain ⟨E1, G1⟩ := hP9
  refine aw_iconst dX12_mixPlace_5 ?_
  refine aw_istore_n (ls1 := [(2, _), (0, _), (1, _)]) dX12_mixPlace_6 (by decide) rfl ?_
  refine aw_sub [0, 1, 2] rfl ?_
  exact L1 H1 (dd.k E1 ST9_k (by unfold ST9; omega)) G1
