/-! ===== the model: axes and their signs ===== -/
theorem b_axd : ∀ c : Nat, c < 128 → (c = 46 ∨ c = 37 ∨ c = 35 ∨ c = 62 ∨ c = 125 ∨ c = 94 ∨ c = 126 ∨ c = 60 ∨ c = 123) ∨ (Op.lookupswitch.offset [(35, 87), (37, 85), (46, 83), (60, 99), (62, 89), (94, 93), (123, 102), (125, 91), (126, 96)] 105 (c : Int) = 105 ∧ axN c = 0) := by decide
theorem m_axisBy {γ : GG} {h : AH} {c : Nat} (hc : c < 128) : Call γ mX12_axisBy 0 0 0 [vi (c : Int)] h (rV (vi (axN c)) h) := by
  refine Call.of (ls := [(0, vi (c : Int))]) sX12_axisBy.1 (Nat.le_of_ble_eq_true rfl) rfl ?_
  refine aw_iload_n dX12_axisBy_0 rfl ?_
  by_cases q46 : c = 46
  · subst q46
    refine aw_lookup (off := 83) (tgt := 84) dX12_axisBy_1 rfl (by omega) rfl rfl ?_
    exact aw_iconst dX12_axisBy_84 (aw_ireturn dX12_axisBy_85 rfl (Or.inl rfl) ⟨rfl, rfl⟩)
  · skip
    by_cases q37 : c = 37
    · subst q37
      refine aw_lookup (off := 85) (tgt := 86) dX12_axisBy_1 rfl (by omega) rfl rfl ?_
      exact aw_iconst dX12_axisBy_86 (aw_ireturn dX12_axisBy_87 rfl (Or.inl rfl) ⟨rfl, rfl⟩)
    · skip
      by_cases q35 : c = 35
      · subst q35
        refine aw_lookup (off := 87) (tgt := 88) dX12_axisBy_1 rfl (by omega) rfl rfl ?_
        exact aw_iconst dX12_axisBy_88 (aw_ireturn dX12_axisBy_89 rfl (Or.inl rfl) ⟨rfl, rfl⟩)
      · skip
        by_cases q62 : c = 62
        · subst q62
          refine aw_lookup (off := 89) (tgt := 90) dX12_axisBy_1 rfl (by omega) rfl rfl ?_
          exact aw_iconst dX12_axisBy_90 (aw_ireturn dX12_axisBy_91 rfl (Or.inl rfl) ⟨rfl, rfl⟩)
        · skip
          by_cases q125 : c = 125
          · subst q125
            refine aw_lookup (off := 91) (tgt := 92) dX12_axisBy_1 rfl (by omega) rfl rfl ?_
            exact aw_iconst dX12_axisBy_92 (aw_ireturn dX12_axisBy_93 rfl (Or.inl rfl) ⟨rfl, rfl⟩)
          · skip
            by_cases q94 : c = 94
            · subst q94
              refine aw_lookup (off := 93) (tgt := 94) dX12_axisBy_1 rfl (by omega) rfl rfl ?_
              exact aw_bipush dX12_axisBy_94 rfl (aw_ireturn dX12_axisBy_96 rfl (Or.inl rfl) ⟨rfl, rfl⟩)
            · skip
              by_cases q126 : c = 126
              · subst q126
                refine aw_lookup (off := 96) (tgt := 97) dX12_axisBy_1 rfl (by omega) rfl rfl ?_
                exact aw_bipush dX12_axisBy_97 rfl (aw_ireturn dX12_axisBy_99 rfl (Or.inl rfl) ⟨rfl, rfl⟩)
              · skip
                by_cases q60 : c = 60
                · subst q60
                  refine aw_lookup (off := 99) (tgt := 100) dX12_axisBy_1 rfl (by omega) rfl rfl ?_
                  exact aw_bipush dX12_axisBy_100 rfl (aw_ireturn dX12_axisBy_102 rfl (Or.inl rfl) ⟨rfl, rfl⟩)
                · skip
                  by_cases q123 : c = 123
                  · subst q123
                    refine aw_lookup (off := 102) (tgt := 103) dX12_axisBy_1 rfl (by omega) rfl rfl ?_
                    exact aw_bipush dX12_axisBy_103 rfl (aw_ireturn dX12_axisBy_105 rfl (Or.inl rfl) ⟨rfl, rfl⟩)
                  · skip
                    obtain ⟨b1, b2⟩ := (b_axd c hc).resolve_left (by omega)
                    rw [b2]
                    refine aw_lookup (off := 105) (tgt := 106) dX12_axisBy_1 rfl (by omega) b1 rfl ?_
                    exact aw_iconst dX12_axisBy_106 (aw_ireturn dX12_axisBy_107 rfl (Or.inl rfl) ⟨rfl, rfl⟩)
theorem m_axisBy0 {γ : GG} {h : AH} : Call γ mX12_axisBy 0 0 0 [vi (-1)] h (rV (vi 0) h) := by
  refine Call.of (ls := [(0, vi (-1))]) sX12_axisBy.1 (Nat.le_of_ble_eq_true rfl) rfl ?_
  refine aw_iload_n dX12_axisBy_0 rfl ?_
  refine aw_lookup (off := 105) (tgt := 106) dX12_axisBy_1 rfl (by omega) rfl rfl ?_
  exact aw_iconst dX12_axisBy_106 (aw_ireturn dX12_axisBy_107 rfl (Or.inl rfl) ⟨rfl, rfl⟩)
theorem m_signOf {γ : GG} {h : AH} {x : Nat} (hx : 1 ≤ x ∧ x ≤ 9) : Call γ mX12_signOf 0 0 0 [vi (x : Int)] h (rV (vi (ax_s.getD (x - 1) 0)) h) := by
  refine Call.of (ls := [(0, vi (x : Int))]) sX12_signOf.1 (Nat.le_of_ble_eq_true rfl) rfl ?_
  refine aw_iload_n dX12_signOf_0 rfl ?_
  match x, hx with
  | 1, _ => exact aw_tableIn (off := 47) (tgt := 48) dX12_signOf_1 (by omega) (by decide) (by decide) rfl rfl (aw_bipush dX12_signOf_48 rfl (aw_ireturn dX12_signOf_50 rfl (Or.inl rfl) ⟨rfl, rfl⟩))
  | 2, _ => exact aw_tableIn (off := 50) (tgt := 51) dX12_signOf_1 (by omega) (by decide) (by decide) rfl rfl (aw_bipush dX12_signOf_51 rfl (aw_ireturn dX12_signOf_53 rfl (Or.inl rfl) ⟨rfl, rfl⟩))
  | 3, _ => exact aw_tableIn (off := 53) (tgt := 54) dX12_signOf_1 (by omega) (by decide) (by decide) rfl rfl (aw_bipush dX12_signOf_54 rfl (aw_ireturn dX12_signOf_56 rfl (Or.inl rfl) ⟨rfl, rfl⟩))
  | 4, _ => exact aw_tableIn (off := 56) (tgt := 57) dX12_signOf_1 (by omega) (by decide) (by decide) rfl rfl (aw_bipush dX12_signOf_57 rfl (aw_ireturn dX12_signOf_59 rfl (Or.inl rfl) ⟨rfl, rfl⟩))
  | 5, _ => exact aw_tableIn (off := 59) (tgt := 60) dX12_signOf_1 (by omega) (by decide) (by decide) rfl rfl (aw_bipush dX12_signOf_60 rfl (aw_ireturn dX12_signOf_62 rfl (Or.inl rfl) ⟨rfl, rfl⟩))
  | 6, _ => exact aw_tableIn (off := 62) (tgt := 63) dX12_signOf_1 (by omega) (by decide) (by decide) rfl rfl (aw_bipush dX12_signOf_63 rfl (aw_ireturn dX12_signOf_65 rfl (Or.inl rfl) ⟨rfl, rfl⟩))
  | 7, _ => exact aw_tableIn (off := 65) (tgt := 66) dX12_signOf_1 (by omega) (by decide) (by decide) rfl rfl (aw_bipush dX12_signOf_66 rfl (aw_ireturn dX12_signOf_68 rfl (Or.inl rfl) ⟨rfl, rfl⟩))
  | 8, _ => exact aw_tableIn (off := 68) (tgt := 69) dX12_signOf_1 (by omega) (by decide) (by decide) rfl rfl (aw_bipush dX12_signOf_69 rfl (aw_ireturn dX12_signOf_71 rfl (Or.inl rfl) ⟨rfl, rfl⟩))
  | 9, _ => exact aw_tableOut (tgt := 72) dX12_signOf_1 (by omega) (Or.inr (by decide)) rfl (aw_bipush dX12_signOf_72 rfl (aw_ireturn dX12_signOf_74 rfl (Or.inl rfl) ⟨rfl, rfl⟩))
  | n + 10, hx => exact absurd hx (by omega)
