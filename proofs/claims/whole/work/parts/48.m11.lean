/-! THE REFERENCE, 11: orders, what is reached, what passes -/
/-- marks m, of which there are N -/
def stR (h : sw_H) (q n : Nat) (p : Nat → Int) (g : sw_H) (m : Nat → Bool) (N : Nat) : Prop := frM [19] [] h g ∧ (∀ r, r < q → g.1 19 r = bI (m r)) ∧ N = cntB m q ∧ (∀ r, r < q → m r = true → ReachZ q n p r) ∧ m 1 = true ∧ m (q - 1) = true
section sw_m11
variable {X : sw_X} {l : Launch} {d : Nat} {h : sw_H} {σ : SgZ} {n q : Nat} {p bx : Nat → Int}
theorem m_reaches (V : imB h n p bx) (hn : n ≤ 4) (O : okQ n p q) : sw_ct wM X l d mX12_reaches [.ref 0, .int (zI q)] h (sw_qI wM X fun r h2 => frM [19] [] h h2 ∧ r = zI (cntB (mkM q n p) q) ∧ ∀ r, r < q → h2.1 19 r = bI (mkM q n p r)) := by
  have o1 := O.1
  have o2 := O.2.1
  have hz : ¬ zI (q : Nat) = 0 := by rw [z0, zI_eq (by omega) (by omega) (by omega) (by omega)]; omega
  refine sw_ct_of (by decide +kernel) (Nat.le_of_ble_eq_true rfl) rfl ?_
  generalize hQ : (sw_qI wM X fun r h2 => frM [19] [] h h2 ∧ r = zI (cntB (mkM q n p) q) ∧ ∀ r, r < q → h2.1 19 r = bI (mkM q n p r)) = Qc
  have main : ∀ (μ : Nat) (m : Nat → Bool) (N W : Nat) (g : sw_H), 2 * (q - N) + (if N = W then 0 else 1) = μ → W ≤ 97 → stR h q n p g m N → (N = W → clsM q n p m) → sw_wp wM X l d mX12_reaches Qc 40 [(0, .ref 0), (1, .int (zI q)), (2, .int (zI N)), (3, .int (zI W))] [] g := by
    intro μ
    induction μ using Nat.strongRecOn with
    | ind μ ih =>
      intro m N W g hμ hW S hc
      obtain ⟨A, g1, eN, hr, m1, m2⟩ := S
      have hNq : N ≤ q := by rw [eN]; exact cntB_le m q
      -- a pass
      have pass : ¬ N = W → ∀ (c v : Nat) (m' : Nat → Bool) (N' : Nat) (g' : sw_H), v + c = q → 1 ≤ v → stR h q n p g' m' N' → (∀ r, r < q → m r = true → m' r = true) → (∀ v' : Nat, 1 ≤ v' → v' < v → m v' = true → ∀ i, i < n → m' ((v' : Int) * p i % q).toNat = true) → sw_wp wM X l d mX12_reaches Qc 50 [(0, .ref 0), (1, .int (zI q)), (2, .int (zI N')), (3, .int (zI N)), (4, .int (zI v))] [] g' := by
        intro hne c
        induction c with
        | zero =>
          intro v m' N' g' hv hv1 S' mo dn
          have : v = q := by omega
          subst this
          have eN' := S'.2.2.1
          have cs := cntB_sub v mo
          rw [← eN, ← eN'] at cs
          refine sw_iload 52 dX12_reaches_50 rfl rfl ?_
          refine sw_iload_n 53 dX12_reaches_52 rfl rfl rfl ?_
          refine sw_icmp_ge 125 56 dX12_reaches_53 (by decide) rfl (fun c53 => ?_) (fun c53 => ?_)
          · refine sw_goto 40 dX12_reaches_125 (by decide) ?_
            refine sw_wp_sub (by simp) (ih (2 * (v - N') + (if N' = N then 0 else 1)) ?_ m' N' N g' rfl (by omega) S' (fun e v' h1 h2 h3 i hi => dn v' h1 h2 (by rw [← cs.2 e v' h2]; exact h3) i hi))
            rw [if_neg hne] at hμ
            by_cases e : N' = N
            · rw [if_pos e]; omega
            · have := cntB_le m' v
              rw [if_neg e]; omega
          · exact absurd (Int32.le_refl _) c53
        | succ c ihc =>
          intro v m' N' g' hv hv1 S' mo dn
          have inner : ∀ (c9 i : Nat) (m' : Nat → Bool) (N' : Nat) (g' : sw_H), i + c9 = n → stR h q n p g' m' N' → (∀ r, r < q → m r = true → m' r = true) → (∀ v' : Nat, 1 ≤ v' → v' < v → m v' = true → ∀ i, i < n → m' ((v' : Int) * p i % q).toNat = true) → (m v = true → ∀ i', i' < i → m' ((v : Int) * p i' % q).toNat = true) → sw_wp wM X l d mX12_reaches Qc 59 [(0, .ref 0), (1, .int (zI q)), (2, .int (zI N')), (3, .int (zI N)), (4, .int (zI v)), (5, .int (zI i))] [] g' := by
            intro c9
            induction c9 with
            | zero =>
              intro i m' N' g' hi S' mo dn dv
              have : i = n := by omega
              subst this
              have e0 : g'.1 0 0 = zI i := by rw [S'.1.2.2 0 (by decide)]; exact V.1
              refine sw_iload 61 dX12_reaches_59 rfl rfl ?_
              refine sw_aload_n 62 dX12_reaches_61 rfl rfl rfl ?_
              refine sw_getI 65 dX12_reaches_62 rfl gf_RX12_83 rfl ⟨by decide, rfl⟩ ?_
              rw [e0]
              refine sw_icmp_ge 119 68 dX12_reaches_65 (by decide) rfl (fun c65 => ?_) (fun c65 => ?_)
              · refine sw_iinc (v := zI 1) (lc' := [(0, _), (1, _), (2, _), (3, _), (4, _), (5, _)]) 122 dX12_reaches_119 rfl (by decide) rfl rfl rfl ?_
                refine sw_goto 50 dX12_reaches_122 (by decide) ?_
                rw [zI_add]
                refine sw_wp_sub (by simp) (ihc (v + 1) m' N' g' (by omega) (by omega) S' mo (fun v' h1 h2 h3 i' hi' => ?_))
                by_cases e : v' = v
                · subst e; exact dv h3 i' hi'
                · exact dn v' h1 (by omega) h3 i' hi'
              · exact absurd (Int32.le_refl _) c65
            | succ c9 ih9 =>
              intro i m' N' g' hi S' mo dn dv
              obtain ⟨A', g1', eN', hr', m1', m2'⟩ := S'
              have e0 : g'.1 0 0 = zI n := by rw [A'.2.2 0 (by decide)]; exact V.1
              have e1 : g'.1 1 i = zI (p i) := by rw [A'.1 1 (by decide) (by decide)]; exact (V.2 i (by omega)).1
              have hp := O.2.2.2 i (by omega)
              have hin5 := zI_inN (a := i) (n := 5) (by omega) (by decide)
              have hinv := zI_inN (a := v) (n := 97) (by omega) (by decide)
              have hmb := mulM_b (a := (v : Int)) (p := p i) (by omega) (by omega) (by omega) (by omega)
              obtain ⟨t, et⟩ := Int.eq_ofNat_of_zero_le (Int.emod_nonneg ((v : Int) * p i) (show (q : Int) ≠ 0 by omega))
              have ht : t < q := by have := Int.emod_lt_of_pos ((v : Int) * p i) (show (0 : Int) < q by omega); omega
              have hint := zI_inN (a := t) (n := 97) (by omega) (by decide)
              have et2 : ((v : Int) * p i % q).toNat = t := by rw [et]; rfl
              have next : ∀ (m'' : Nat → Bool) (N'' : Nat) (g'' : sw_H), stR h q n p g'' m'' N'' → (∀ r, m' r = true → m'' r = true) → (m v = true → m'' t = true) → sw_wp wM X l d mX12_reaches Qc 59 [(0, .ref 0), (1, .int (zI q)), (2, .int (zI N'')), (3, .int (zI N)), (4, .int (zI v)), (5, .int (zI ((i + 1 : Nat) : Int)))] [] g'' := by
                intro m'' N'' g'' S'' up tt
                refine ih9 (i + 1) m'' N'' g'' (by omega) S'' (fun r h1 h2 => up r (mo r h1 h2)) (fun v' h1 h2 h3 i' hi' => up _ (dn v' h1 h2 h3 i' hi')) (fun h3 i' hi' => ?_)
                by_cases e : i' = i
                · subst e; rw [et2]; exact tt h3
                · exact up _ (dv h3 i' (by omega))
              have same := next m' N' g' ⟨A', g1', eN', hr', m1', m2'⟩ (fun r h => h)
              refine sw_iload 61 dX12_reaches_59 rfl rfl ?_
              refine sw_aload_n 62 dX12_reaches_61 rfl rfl rfl ?_
              refine sw_getI 65 dX12_reaches_62 rfl gf_RX12_83 rfl ⟨by decide, rfl⟩ ?_
              rw [e0]
              refine sw_icmp_ge 119 68 dX12_reaches_65 (by decide) rfl (fun c65 => ?_) (fun c65 => ?_)
              · exact absurd c65 (by rw [zI_le (by omega) (by omega) (by omega) (by omega)]; omega)
              · refine sw_iload 70 dX12_reaches_68 rfl rfl ?_
                refine sw_aload_n 71 dX12_reaches_70 rfl rfl rfl ?_
                refine sw_getR (b := 1) 74 dX12_reaches_71 rfl gf_RX12_9 (fun _ _ _ _ => rfl) ⟨by decide, rfl⟩ rfl ?_
                refine sw_iload 76 dX12_reaches_74 rfl rfl ?_
                refine sw_iald 77 dX12_reaches_76 rfl ⟨by decide, rfl⟩ (by assumption) ?_
                rw [zI_clampN (by omega), e1]
                refine sw_imul 78 dX12_reaches_77 rfl ?_
                rw [zI_mul]
                refine sw_iload_n 79 dX12_reaches_78 rfl rfl rfl ?_
                refine sw_irem 80 dX12_reaches_79 rfl (by first | assumption | decide) ?_
                rw [zI_rem (by omega) (by omega) (by omega) (by omega), Int.tmod_eq_emod_of_nonneg (by omega), et]
                refine sw_istore (lc' := [(0, _), (1, _), (2, _), (3, _), (4, _), (5, _), (6, _)]) 82 dX12_reaches_80 rfl (by decide) rfl ?_
                refine sw_aload_n 83 dX12_reaches_82 rfl rfl rfl ?_
                refine sw_getR (b := 19) 86 dX12_reaches_83 rfl gf_RX12_67 (fun _ _ _ _ => rfl) ⟨by decide, rfl⟩ rfl ?_
                refine sw_iload 88 dX12_reaches_86 rfl rfl ?_
                refine sw_zald 89 dX12_reaches_88 rfl ⟨by decide, rfl⟩ (by assumption) ?_
                rw [zI_clampN (by omega), g1' v (by omega)]
                refine sw_if_eq 113 92 dX12_reaches_89 (by decide) rfl (fun c89 => ?_) (fun c89 => ?_)
                · refine sw_iinc (v := zI 1) (lc' := [(0, _), (1, _), (2, _), (3, _), (4, _), (5, _), (6, _)]) 116 dX12_reaches_113 rfl (by decide) rfl rfl rfl ?_
                  refine sw_goto 59 dX12_reaches_116 (by decide) ?_
                  rw [bIz_eq] at c89
                  rw [zI_add]
                  exact sw_wp_sub (by simp) (same (fun hm => by rw [mo v (by omega) hm] at c89; cases c89))
                · rw [bIz_eq, Bool.not_eq_false] at c89
                  refine sw_aload_n 93 dX12_reaches_92 rfl rfl rfl ?_
                  refine sw_getR (b := 19) 96 dX12_reaches_93 rfl gf_RX12_67 (fun _ _ _ _ => rfl) ⟨by decide, rfl⟩ rfl ?_
                  refine sw_iload 98 dX12_reaches_96 rfl rfl ?_
                  refine sw_zald 99 dX12_reaches_98 rfl ⟨by decide, rfl⟩ (by assumption) ?_
                  rw [zI_clampN (by omega), g1' t ht]
                  refine sw_if_ne 113 102 dX12_reaches_99 (by decide) rfl (fun c99 => ?_) (fun c99 => ?_)
                  · refine sw_iinc (v := zI 1) (lc' := [(0, _), (1, _), (2, _), (3, _), (4, _), (5, _), (6, _)]) 116 dX12_reaches_113 rfl (by decide) rfl rfl rfl ?_
                    refine sw_goto 59 dX12_reaches_116 (by decide) ?_
                    rw [bIz_eq, Bool.not_eq_false] at c99
                    rw [zI_add]
                    exact sw_wp_sub (by simp) (same (fun _ => c99))
                  · rw [bIz_eq] at c99
                    refine sw_aload_n 103 dX12_reaches_102 rfl rfl rfl ?_
                    refine sw_getR (b := 19) 106 dX12_reaches_103 rfl gf_RX12_67 (fun _ _ _ _ => rfl) ⟨by decide, rfl⟩ rfl ?_
                    refine sw_iload 108 dX12_reaches_106 rfl rfl ?_
                    refine sw_iconst (v := zI 1) 109 dX12_reaches_108 rfl (by decide) ?_
                    refine sw_zast 110 (by first | exact Or.inl rfl | exact Or.inr rfl | assumption) dX12_reaches_109 rfl ⟨by decide, rfl⟩ (by assumption) ?_
                    rw [zI_clampN (by omega)]
                    refine sw_iinc (v := zI 1) (lc' := [(0, _), (1, _), (2, _), (3, _), (4, _), (5, _), (6, _)]) 113 dX12_reaches_110 rfl (by decide) rfl rfl rfl ?_
                    refine sw_iinc (v := zI 1) (lc' := [(0, _), (1, _), (2, _), (3, _), (4, _), (5, _), (6, _)]) 116 dX12_reaches_113 rfl (by decide) rfl rfl rfl ?_
                    refine sw_goto 59 dX12_reaches_116 (by decide) ?_
                    rw [zI_add, zI_add]
                    refine sw_wp_sub (by simp) (next (va_up m' t true) (N' + 1) _ ⟨frM_tr A' (frM_wI (by decide) (by decide)), fun r hq => ?_, by rw [cntB_up m' t c99 q, if_pos ht, ← eN'], fun r hq hm => ?_, ?_, ?_⟩ (fun r hm => ?_) (fun _ => by simp [va_up]))
                    · rw [sw_wI_at]
                      unfold va_up
                      by_cases e : r = t
                      · rw [if_pos e, if_pos e]; rfl
                      · rw [if_neg e, if_neg e]; exact g1' r hq
                    · unfold va_up at hm
                      by_cases e : r = t
                      · rw [e]; exact reach_mul (hr' v (by omega) c89) ht (show i < n by omega) et.symm
                      · rw [if_neg e] at hm; exact hr' r hq hm
                    · unfold va_up; split
                      · rfl
                      · exact m1'
                    · unfold va_up; split
                      · rfl
                      · exact m2'
                    · unfold va_up; split
                      · rfl
                      · exact hm
          refine sw_iload 52 dX12_reaches_50 rfl rfl ?_
          refine sw_iload_n 53 dX12_reaches_52 rfl rfl rfl ?_
          refine sw_icmp_ge 125 56 dX12_reaches_53 (by decide) rfl (fun c53 => ?_) (fun c53 => ?_)
          · exact absurd c53 (by rw [zI_le (by omega) (by omega) (by omega) (by omega)]; omega)
          · refine sw_iconst (v := zI 0) 57 dX12_reaches_56 rfl (by decide) ?_
            refine sw_istore (lc' := [(0, _), (1, _), (2, _), (3, _), (4, _), (5, _)]) 59 dX12_reaches_57 rfl (by decide) rfl ?_
            exact inner n 0 m' N' g' (by omega) S' mo dn (fun _ i hi => absurd hi (Nat.not_lt_zero i))
      refine sw_iload_n 41 dX12_reaches_40 rfl rfl rfl ?_
      refine sw_iload_n 42 dX12_reaches_41 rfl rfl rfl ?_
      refine sw_icmp_eq 128 45 dX12_reaches_42 (by decide) rfl (fun c42 => ?_) (fun c42 => ?_)
      · rw [zI_eq (by omega) (by omega) (by omega) (by omega)] at c42
        subst hQ
        refine sw_iload_n 129 dX12_reaches_128 rfl rfl rfl ?_
        exact sw_iret dX12_reaches_129 rfl (by
  have e := reach_cls O m1 m2 (hc (by omega)) hr
  exact ⟨A, by rw [eN, cntB_congr q e], fun r hq => by rw [← e r hq]; exact g1 r hq⟩)
      · refine sw_iload_n 46 dX12_reaches_45 rfl rfl rfl ?_
        refine sw_istore_n (lc' := [(0, _), (1, _), (2, _), (3, _)]) 47 dX12_reaches_46 rfl rfl (by decide) rfl ?_
        refine sw_iconst (v := zI 1) 48 dX12_reaches_47 rfl (by decide) ?_
        refine sw_istore (lc' := [(0, _), (1, _), (2, _), (3, _), (4, _)]) 50 dX12_reaches_48 rfl (by decide) rfl ?_
        rw [zI_eq (by omega) (by omega) (by omega) (by omega)] at c42
        exact pass (by omega) (q - 1) 1 m N g (by omega) (by omega) ⟨A, g1, eN, hr, m1, m2⟩ (fun _ _ h => h) (fun v' h1 h2 => by omega)
  have ini : ∀ (c j : Nat) (g : sw_H), j + c = q → frM [19] [] h g → (∀ r, r < j → g.1 19 r = bI (iniM q r)) → sw_wp wM X l d mX12_reaches Qc 2 [(0, .ref 0), (1, .int (zI q)), (2, .int (zI j))] [] g := by
    intro c
    induction c with
    | zero =>
      intro j g hj A g1
      have : j = q := by omega
      subst this
      refine sw_iload_n 3 dX12_reaches_2 rfl rfl rfl ?_
      refine sw_iload_n 4 dX12_reaches_3 rfl rfl rfl ?_
      refine sw_icmp_ge 36 7 dX12_reaches_4 (by decide) rfl (fun c4 => ?_) (fun c4 => ?_)
      · refine sw_iconst (v := zI 2) 37 dX12_reaches_36 rfl (by decide) ?_
        refine sw_istore_n (lc' := [(0, _), (1, _), (2, _)]) 38 dX12_reaches_37 rfl rfl (by decide) rfl ?_
        refine sw_iconst (v := zI 0) 39 dX12_reaches_38 rfl (by decide) ?_
        refine sw_istore_n (lc' := [(0, _), (1, _), (2, _), (3, _)]) 40 dX12_reaches_39 rfl rfl (by decide) rfl ?_
        refine main _ (iniM j) 2 0 g rfl (by decide) ⟨A, g1, (iniM_2 o1).symm, fun r hr hm => ?_, by unfold iniM; rw [decide_eq_true (Or.inl rfl)], by unfold iniM; rw [decide_eq_true (Or.inr rfl)]⟩ (fun e => by omega)
        unfold iniM at hm
        rcases of_decide_eq_true hm with e | e
        · rw [e]; exact reach_one
        · exact reach_neg reach_one hr (by omega)
      · exact absurd (Int32.le_refl _) c4
    | succ c ih =>
      intro j g hj A g1
      have hin := zI_inN (a := j) (n := 97) (by omega) (by decide)
      have next : ∀ x : Int32, x = bI (iniM q j) → sw_wp wM X l d mX12_reaches Qc 2 [(0, .ref 0), (1, .int (zI q)), (2, .int (zI ((j + 1 : Nat) : Int)))] [] (sw_wI g 19 j x) := by
        intro x hx
        refine ih (j + 1) _ (by omega) (frM_tr A (frM_wI (by decide) (by decide))) (fun r hr => ?_)
        rw [sw_wI_at]
        unfold va_up
        by_cases e : r = j
        · rw [if_pos e, e]; exact hx
        · rw [if_neg e]; exact g1 r (by omega)
      refine sw_iload_n 3 dX12_reaches_2 rfl rfl rfl ?_
      refine sw_iload_n 4 dX12_reaches_3 rfl rfl rfl ?_
      refine sw_icmp_ge 36 7 dX12_reaches_4 (by decide) rfl (fun c4 => ?_) (fun c4 => ?_)
      · exact absurd c4 (by rw [zI_le (by omega) (by omega) (by omega) (by omega)]; omega)
      · refine sw_aload_n 8 dX12_reaches_7 rfl rfl rfl ?_
        refine sw_getR (b := 19) 11 dX12_reaches_8 rfl gf_RX12_67 (fun _ _ _ _ => rfl) ⟨by decide, rfl⟩ rfl ?_
        refine sw_iload_n 12 dX12_reaches_11 rfl rfl rfl ?_
        refine sw_iload_n 13 dX12_reaches_12 rfl rfl rfl ?_
        refine sw_iconst (v := zI 1) 14 dX12_reaches_13 rfl (by decide) ?_
        refine sw_icmp_eq 24 17 dX12_reaches_14 (by decide) rfl (fun c14 => ?_) (fun c14 => ?_)
        · refine sw_iconst (v := zI 1) 25 dX12_reaches_24 rfl (by decide) ?_
          refine sw_goto 29 dX12_reaches_25 (by decide) ?_
          refine sw_zast 30 (by first | exact Or.inl rfl | exact Or.inr rfl | assumption) dX12_reaches_29 rfl ⟨by decide, rfl⟩ (by assumption) ?_
          refine sw_iinc (v := zI 1) (lc' := [(0, _), (1, _), (2, _)]) 33 dX12_reaches_30 rfl (by decide) rfl rfl rfl ?_
          refine sw_goto 2 dX12_reaches_33 (by decide) ?_
          rw [zI_eq (by omega) (by omega) (by omega) (by omega)] at c14
          rw [zI_clampN (by omega), zI_add]
          exact next _ (by unfold iniM; rw [decide_eq_true (by omega)]; rfl)
        · refine sw_iload_n 18 dX12_reaches_17 rfl rfl rfl ?_
          refine sw_iload_n 19 dX12_reaches_18 rfl rfl rfl ?_
          refine sw_iconst (v := zI 1) 20 dX12_reaches_19 rfl (by decide) ?_
          refine sw_isub 21 dX12_reaches_20 rfl ?_
          rw [zI_sub]
          refine sw_icmp_ne 28 24 dX12_reaches_21 (by decide) rfl (fun c21 => ?_) (fun c21 => ?_)
          · refine sw_iconst (v := zI 0) 29 dX12_reaches_28 rfl (by decide) ?_
            refine sw_zast 30 (by first | exact Or.inl rfl | exact Or.inr rfl | assumption) dX12_reaches_29 rfl ⟨by decide, rfl⟩ (by assumption) ?_
            refine sw_iinc (v := zI 1) (lc' := [(0, _), (1, _), (2, _)]) 33 dX12_reaches_30 rfl (by decide) rfl rfl rfl ?_
            refine sw_goto 2 dX12_reaches_33 (by decide) ?_
            rw [zI_eq (by omega) (by omega) (by omega) (by omega)] at c14 c21
            rw [zI_clampN (by omega), zI_add]
            exact next _ (by unfold iniM; rw [decide_eq_false (by omega)]; rfl)
          · refine sw_iconst (v := zI 1) 25 dX12_reaches_24 rfl (by decide) ?_
            refine sw_goto 29 dX12_reaches_25 (by decide) ?_
            refine sw_zast 30 (by first | exact Or.inl rfl | exact Or.inr rfl | assumption) dX12_reaches_29 rfl ⟨by decide, rfl⟩ (by assumption) ?_
            refine sw_iinc (v := zI 1) (lc' := [(0, _), (1, _), (2, _)]) 33 dX12_reaches_30 rfl (by decide) rfl rfl rfl ?_
            refine sw_goto 2 dX12_reaches_33 (by decide) ?_
            rw [zI_eq (by omega) (by omega) (by omega) (by omega)] at c21
            rw [zI_clampN (by omega), zI_add]
            exact next _ (by unfold iniM; rw [decide_eq_true (by omega)]; rfl)
  refine sw_iconst (v := zI 0) 1 dX12_reaches_0 rfl (by decide) ?_
  refine sw_istore_n (lc' := [(0, _), (1, _), (2, _)]) 2 dX12_reaches_1 rfl rfl (by decide) rfl ?_
  exact ini q 0 h (by omega) frM_rf (fun r hr => absurd hr (Nat.not_lt_zero r))
theorem m_inverse {w : sw_W} {v : Int} (q1 : 3 ≤ q) (q2 : q ≤ 97) (v1 : 0 ≤ v) (v2 : v < q) {w0 : Nat} (h0 : 1 ≤ w0) (h1 : w0 < q) (h2 : (w0 : Int) * v % q = 1) : sw_ct w X l d mX12_inverse [.int (zI v), .int (zI q)] h (sw_qI w X fun r h2 => h2 = h ∧ ∃ x : Nat, r = zI x ∧ x < q ∧ (x : Int) * v % q = 1) := by
  have hz : ¬ zI (q : Nat) = 0 := by rw [z0, zI_eq (by omega) (by omega) (by omega) (by omega)]; omega
  refine sw_ct_of (by decide +kernel) (Nat.le_of_ble_eq_true rfl) rfl ?_
  have loop : ∀ (c j : Nat), j + c = w0 → 1 ≤ j → sw_wp w X l d mX12_inverse (sw_qI w X fun r h2 => h2 = h ∧ ∃ x : Nat, r = zI x ∧ x < q ∧ (x : Int) * v % q = 1) 2 [(0, .int (zI v)), (1, .int (zI q)), (2, .int (zI j))] [] h := by
    intro c
    induction c with
    | zero =>
      intro j hj j1
      have : j = w0 := by omega
      subst this
      have hmb := mulM_b (a := (j : Int)) (p := v) (by omega) (by omega) (by omega) (by omega)
      refine sw_iload_n 3 dX12_inverse_2 rfl rfl rfl ?_
      refine sw_iload_n 4 dX12_inverse_3 rfl rfl rfl ?_
      refine sw_imul 5 dX12_inverse_4 rfl ?_
      rw [zI_mul]
      refine sw_iload_n 6 dX12_inverse_5 rfl rfl rfl ?_
      refine sw_irem 7 dX12_inverse_6 rfl (by first | assumption | decide) ?_
      rw [zI_rem (by omega) (by omega) (by omega) (by omega), Int.tmod_eq_emod_of_nonneg (by omega), h2]
      refine sw_iconst (v := zI 1) 8 dX12_inverse_7 rfl (by decide) ?_
      refine sw_icmp_eq 17 11 dX12_inverse_8 (by decide) rfl (fun c8 => ?_) (fun c8 => ?_)
      · refine sw_iload_n 18 dX12_inverse_17 rfl rfl rfl ?_
        exact sw_iret dX12_inverse_18 rfl (⟨rfl, j, rfl, h1, h2⟩)
      · exact absurd rfl c8
    | succ c ih =>
      intro j hj j1
      have hmb := mulM_b (a := (j : Int)) (p := v) (by omega) (by omega) (by omega) (by omega)
      have r0 : 0 ≤ (j : Int) * v % q := Int.emod_nonneg _ (by omega)
      have r1 : (j : Int) * v % q < q := Int.emod_lt_of_pos _ (by omega)
      refine sw_iload_n 3 dX12_inverse_2 rfl rfl rfl ?_
      refine sw_iload_n 4 dX12_inverse_3 rfl rfl rfl ?_
      refine sw_imul 5 dX12_inverse_4 rfl ?_
      rw [zI_mul]
      refine sw_iload_n 6 dX12_inverse_5 rfl rfl rfl ?_
      refine sw_irem 7 dX12_inverse_6 rfl (by first | assumption | decide) ?_
      rw [zI_rem (by omega) (by omega) (by omega) (by omega), Int.tmod_eq_emod_of_nonneg (by omega)]
      refine sw_iconst (v := zI 1) 8 dX12_inverse_7 rfl (by decide) ?_
      refine sw_icmp_eq 17 11 dX12_inverse_8 (by decide) rfl (fun c8 => ?_) (fun c8 => ?_)
      · refine sw_iload_n 18 dX12_inverse_17 rfl rfl rfl ?_
        exact sw_iret dX12_inverse_18 rfl (by
  rw [zI_eq (by omega) (by omega) (by omega) (by omega)] at c8
  exact ⟨rfl, j, rfl, by omega, c8⟩)
      · refine sw_iinc (v := zI 1) (lc' := [(0, _), (1, _), (2, _)]) 14 dX12_inverse_11 rfl (by decide) rfl rfl rfl ?_
        refine sw_goto 2 dX12_inverse_14 (by decide) ?_
        rw [zI_add]
        exact ih (j + 1) (by omega) (by omega)
  refine sw_iconst (v := zI 1) 1 dX12_inverse_0 rfl (by decide) ?_
  refine sw_istore_n (lc' := [(0, _), (1, _), (2, _)]) 2 dX12_inverse_1 rfl rfl (by decide) rfl ?_
  exact loop (w0 - 1) 1 (by omega) (by omega)
/-- the inverses are laid -/
def invD (g : sw_H) (n q : Nat) (p : Nat → Int) : Prop := ∀ i, i < n → ∃ x : Nat, g.1 20 i = zI x ∧ x < q ∧ (x : Int) * p i % q = 1
theorem m_layInverses (V : imB h n p bx) (hn : n ≤ 4) (O : okQ n p q) : sw_ct wM X l (d + 1) mX12_layInverses [.ref 0, .int (zI q)] h (sw_qV wM X fun h2 => frM [20] [] h h2 ∧ invD h2 n q p) := by
  have o1 := O.1
  have o2 := O.2.1
  have hz : ¬ zI (q : Nat) = 0 := by rw [z0, zI_eq (by omega) (by omega) (by omega) (by omega)]; omega
  refine sw_ct_of (by decide +kernel) (Nat.le_of_ble_eq_true rfl) rfl ?_
  have loop : ∀ (c j : Nat) (g : sw_H), j + c = n → frM [20] [] h g → invD g j q p → sw_wp wM X l (d + 1) mX12_layInverses (sw_qV wM X fun h2 => frM [20] [] h h2 ∧ invD h2 n q p) 2 [(0, .ref 0), (1, .int (zI q)), (2, .int (zI j))] [] g := by
    intro c
    induction c with
    | zero =>
      intro j g hj A D
      have : j = n := by omega
      subst this
      have e0 : g.1 0 0 = zI j := by rw [A.2.2 0 (by decide)]; exact V.1
      refine sw_iload_n 3 dX12_layInverses_2 rfl rfl rfl ?_
      refine sw_aload_n 4 dX12_layInverses_3 rfl rfl rfl ?_
      refine sw_getI 7 dX12_layInverses_4 rfl gf_RX12_83 rfl ⟨by decide, rfl⟩ ?_
      rw [e0]
      refine sw_icmp_ge 34 10 dX12_layInverses_7 (by decide) rfl (fun c7 => ?_) (fun c7 => ?_)
      · exact sw_vret dX12_layInverses_34 rfl (⟨A, D⟩)
      · exact absurd (Int32.le_refl _) c7
    | succ c ih =>
      intro j g hj A D
      have e0 : g.1 0 0 = zI n := by rw [A.2.2 0 (by decide)]; exact V.1
      have e1 : g.1 1 j = zI (p j) := by rw [A.1 1 (by decide) (by decide)]; exact (V.2 j (by omega)).1
      have hp := O.2.2.2 j (by omega)
      have hin5 := zI_inN (a := j) (n := 5) (by omega) (by decide)
      have hin4 := zI_inN (a := j) (n := 4) (by omega) (by decide)
      have r0 : 0 ≤ p j % q := Int.emod_nonneg _ (by omega)
      have r1 : p j % q < q := Int.emod_lt_of_pos _ (by omega)
      obtain ⟨w0, w1, w2, w3⟩ := inv_ex o1 (okQ_f O (show j < n by omega))
      refine sw_iload_n 3 dX12_layInverses_2 rfl rfl rfl ?_
      refine sw_aload_n 4 dX12_layInverses_3 rfl rfl rfl ?_
      refine sw_getI 7 dX12_layInverses_4 rfl gf_RX12_83 rfl ⟨by decide, rfl⟩ ?_
      rw [e0]
      refine sw_icmp_ge 34 10 dX12_layInverses_7 (by decide) rfl (fun c7 => ?_) (fun c7 => ?_)
      · exact absurd c7 (by rw [zI_le (by omega) (by omega) (by omega) (by omega)]; omega)
      · refine sw_aload_n 11 dX12_layInverses_10 rfl rfl rfl ?_
        refine sw_getR (b := 20) 14 dX12_layInverses_11 rfl gf_RX12_71 (fun _ _ _ _ => rfl) ⟨by decide, rfl⟩ rfl ?_
        refine sw_iload_n 15 dX12_layInverses_14 rfl rfl rfl ?_
        refine sw_aload_n 16 dX12_layInverses_15 rfl rfl rfl ?_
        refine sw_getR (b := 1) 19 dX12_layInverses_16 rfl gf_RX12_9 (fun _ _ _ _ => rfl) ⟨by decide, rfl⟩ rfl ?_
        refine sw_iload_n 20 dX12_layInverses_19 rfl rfl rfl ?_
        refine sw_iald 21 dX12_layInverses_20 rfl ⟨by decide, rfl⟩ (by assumption) ?_
        rw [zI_clampN (by omega), e1]
        refine sw_iload_n 22 dX12_layInverses_21 rfl rfl rfl ?_
        refine sw_irem 23 dX12_layInverses_22 rfl (by first | assumption | decide) ?_
        rw [zI_rem (by omega) (by omega) (by omega) (by omega), Int.tmod_eq_emod_of_nonneg (by omega)]
        refine sw_iload_n 24 dX12_layInverses_23 rfl rfl rfl ?_
        refine sw_invSI 27 dX12_layInverses_24 rfl lk_RX12_216 (m_inverse o1 o2 r0 r1 w1 w2 (by rw [mm_r]; exact w3)) rfl rfl (Nat.le_of_ble_eq_true rfl) (fun r24 h24 hq24 => ?_)
        obtain ⟨rfl, x, rfl, x1, x2⟩ := hq24
        refine sw_iast 28 dX12_layInverses_27 rfl ⟨by decide, rfl⟩ (by assumption) ?_
        refine sw_iinc (v := zI 1) (lc' := [(0, _), (1, _), (2, _)]) 31 dX12_layInverses_28 rfl (by decide) rfl rfl rfl ?_
        refine sw_goto 2 dX12_layInverses_31 (by decide) ?_
        rw [zI_clampN (by omega), zI_add]
        refine ih (j + 1) _ (by omega) (frM_tr A (frM_wI (by decide) (by decide))) (fun i hi => ?_)
        rw [sw_wI_at]
        unfold va_up
        by_cases e : i = j
        · rw [if_pos e]; exact ⟨x, rfl, x1, by rw [e, ← mm_r]; exact x2⟩
        · rw [if_neg e]; exact D i (by omega)
  refine sw_iconst (v := zI 0) 1 dX12_layInverses_0 rfl (by decide) ?_
  refine sw_istore_n (lc' := [(0, _), (1, _), (2, _)]) 2 dX12_layInverses_1 rfl rfl (by decide) rfl ?_
  exact loop n 0 h (by omega) frM_rf (fun i hi => absurd hi (Nat.not_lt_zero i))
theorem m_isPassing {e : Nat → Int} {sg : Int} {m : Nat → Bool} (V : imB h n p bx) (hn : n ≤ 4) (O : okQ n p q) (R : rwM h 9 n e) (he : e6Z n e) (hS : h.1 0 14 = zI sg) (hs : sg = 1 ∨ sg = -1) (D : invD h n q p) (hm : ∀ r, r < q → h.1 19 r = bI (m r)) : sw_ct wM X l (d + 1) mX12_isPassing [.ref 0, .int (zI q)] h (sw_qI wM X fun r h2 => h2 = h ∧ r = bI (m ((1 - resM q sg p e n) % q).toNat)) := by
  have o1 := O.1
  have o2 := O.2.1
  have hz : ¬ zI (q : Nat) = 0 := by rw [z0, zI_eq (by omega) (by omega) (by omega) (by omega)]; omega
  refine sw_ct_of (by decide +kernel) (Nat.le_of_ble_eq_true rfl) rfl ?_
  generalize hQ : (sw_qI wM X fun r h2 => h2 = h ∧ r = bI (m ((1 - resM q sg p e n) % q).toNat)) = Qc
  have loop : ∀ (c j : Nat), j + c = n → sw_wp wM X l (d + 1) mX12_isPassing Qc 18 [(0, .ref 0), (1, .int (zI q)), (2, .int (zI (resM q sg p e j))), (3, .int (zI j))] [] h := by
    intro c
    induction c with
    | zero =>
      intro j hj
      have : j = n := by omega
      subst this
      have rb := resM_b (q := q) (sg := sg) (p := p) (e := e) (by omega) j
      have em : (1 - resM q sg p e j + q) % q = (1 - resM q sg p e j) % q := Int.add_emod_right _ _
      obtain ⟨t, et⟩ := Int.eq_ofNat_of_zero_le (Int.emod_nonneg (1 - resM q sg p e j) (show (q : Int) ≠ 0 by omega))
      have ht : t < q := by have := Int.emod_lt_of_pos (1 - resM q sg p e j) (show (0 : Int) < q by omega); omega
      have hin := zI_inN (a := t) (n := 97) (by omega) (by decide)
      subst hQ
      refine sw_iload_n 19 dX12_isPassing_18 rfl rfl rfl ?_
      refine sw_aload_n 20 dX12_isPassing_19 rfl rfl rfl ?_
      refine sw_getI 23 dX12_isPassing_20 rfl gf_RX12_83 rfl ⟨by decide, rfl⟩ ?_
      rw [V.1]
      refine sw_icmp_ge 96 26 dX12_isPassing_23 (by decide) rfl (fun c23 => ?_) (fun c23 => ?_)
      · refine sw_aload_n 97 dX12_isPassing_96 rfl rfl rfl ?_
        refine sw_getR (b := 19) 100 dX12_isPassing_97 rfl gf_RX12_67 (fun _ _ _ _ => rfl) ⟨by decide, rfl⟩ rfl ?_
        refine sw_iconst (v := zI 1) 101 dX12_isPassing_100 rfl (by decide) ?_
        refine sw_iload_n 102 dX12_isPassing_101 rfl rfl rfl ?_
        refine sw_isub 103 dX12_isPassing_102 rfl ?_
        rw [zI_sub]
        refine sw_iload_n 104 dX12_isPassing_103 rfl rfl rfl ?_
        refine sw_iadd 105 dX12_isPassing_104 rfl ?_
        rw [zI_add]
        refine sw_iload_n 106 dX12_isPassing_105 rfl rfl rfl ?_
        refine sw_irem 107 dX12_isPassing_106 rfl (by first | assumption | decide) ?_
        rw [zI_rem (by omega) (by omega) (by omega) (by omega), Int.tmod_eq_emod_of_nonneg (by omega), em, et]
        refine sw_zald 108 dX12_isPassing_107 rfl ⟨by decide, rfl⟩ (by assumption) ?_
        rw [zI_clampN (by omega), hm t ht]
        exact sw_zret (bI_01 _) dX12_isPassing_108 rfl (⟨rfl, rfl⟩)
      · exact absurd (Int32.le_refl _) c23
    | succ c ih =>
      intro j hj
      have hp := O.2.2.2 j (by omega)
      have hin5 := zI_inN (a := j) (n := 5) (by omega) (by decide)
      have hin4 := zI_inN (a := j) (n := 4) (by omega) (by decide)
      have hej := he j (by omega)
      have e9 := R j (by omega)
      have e1 := (V.2 j (by omega)).1
      obtain ⟨x, x0, x1, x2⟩ := D j (by omega)
      have rb := resM_b (q := q) (sg := sg) (p := p) (e := e) (by omega) j
      have r0 : 0 ≤ p j % q := Int.emod_nonneg _ (by omega)
      have r1 : p j % q < q := Int.emod_lt_of_pos _ (by omega)
      have hmx : max (e j) (-e j) = ((e j).natAbs : Int) := by omega
      have fin := itM_at (q := q) (p := p j) (w := x) (e := e j) (v := resM q sg p e j) o1 (okQ_f O (by omega)) x2 rb.1 rb.2
      rw [← resM_pw] at fin
      have inner : ∀ (b : Int), 0 ≤ b → b < q → ∀ (k : Nat) (v : Int), k ≤ 6 → 0 ≤ v → v < q → itM q b k v = resM q sg p e (j + 1) → sw_wp wM X l (d + 1) mX12_isPassing Qc 72 [(0, .ref 0), (1, .int (zI q)), (2, .int (zI v)), (3, .int (zI j)), (4, .int (zI b)), (5, .int (zI k))] [] h := by
        intro b b0 b1 k
        induction k with
        | zero =>
          intro v _ v0 v1 ev
          have ev : v = resM q sg p e (j + 1) := ev
          refine sw_iload 74 dX12_isPassing_72 rfl rfl ?_
          refine sw_if_le 90 77 dX12_isPassing_74 (by decide) rfl (fun c74 => ?_) (fun c74 => ?_)
          · refine sw_iinc (v := zI 1) (lc' := [(0, _), (1, _), (2, _), (3, _), (4, _), (5, _)]) 93 dX12_isPassing_90 rfl (by decide) rfl rfl rfl ?_
            refine sw_goto 18 dX12_isPassing_93 (by decide) ?_
            rw [zI_add, ev]
            exact sw_wp_sub (by simp) (ih (j + 1) (by omega))
          · exact absurd (Int32.le_refl _) c74
        | succ k ihk =>
          intro v hk v0 v1 ev
          have hmb := mulM_b (a := v) (p := b) (by omega) (by omega) (by omega) (by omega)
          have e2 : zI ((k + 1 : Nat) : Int) + zI (-1) = zI k := by rw [zI_add]; congr 1; omega
          refine sw_iload 74 dX12_isPassing_72 rfl rfl ?_
          refine sw_if_le 90 77 dX12_isPassing_74 (by decide) rfl (fun c74 => ?_) (fun c74 => ?_)
          · exact absurd c74 (by rw [z0, zI_le (by omega) (by omega) (by omega) (by omega)]; omega)
          · refine sw_iload_n 78 dX12_isPassing_77 rfl rfl rfl ?_
            refine sw_iload 80 dX12_isPassing_78 rfl rfl ?_
            refine sw_imul 81 dX12_isPassing_80 rfl ?_
            refine sw_iload_n 82 dX12_isPassing_81 rfl rfl rfl ?_
            refine sw_irem 83 dX12_isPassing_82 rfl (by first | assumption | decide) ?_
            refine sw_istore_n (lc' := [(0, _), (1, _), (2, _), (3, _), (4, _), (5, _)]) 84 dX12_isPassing_83 rfl rfl (by decide) rfl ?_
            refine sw_iinc (v := zI (-1)) (lc' := [(0, _), (1, _), (2, _), (3, _), (4, _), (5, _)]) 87 dX12_isPassing_84 rfl (by decide) rfl rfl rfl ?_
            refine sw_goto 72 dX12_isPassing_87 (by decide) ?_
            rw [e2, zI_mul, zI_rem (by omega) (by omega) (by omega) (by omega), Int.tmod_eq_emod_of_nonneg (by omega)]
            exact ihk (v * b % q) (by omega) (Int.emod_nonneg _ (by omega)) (Int.emod_lt_of_pos _ (by omega)) ev
      refine sw_iload_n 19 dX12_isPassing_18 rfl rfl rfl ?_
      refine sw_aload_n 20 dX12_isPassing_19 rfl rfl rfl ?_
      refine sw_getI 23 dX12_isPassing_20 rfl gf_RX12_83 rfl ⟨by decide, rfl⟩ ?_
      rw [V.1]
      refine sw_icmp_ge 96 26 dX12_isPassing_23 (by decide) rfl (fun c23 => ?_) (fun c23 => ?_)
      · exact absurd c23 (by rw [zI_le (by omega) (by omega) (by omega) (by omega)]; omega)
      · refine sw_aload_n 27 dX12_isPassing_26 rfl rfl rfl ?_
        refine sw_getR (b := 9) 30 dX12_isPassing_27 rfl gf_RX12_37 (fun _ _ _ _ => rfl) ⟨by decide, rfl⟩ rfl ?_
        refine sw_iload_n 31 dX12_isPassing_30 rfl rfl rfl ?_
        refine sw_iald 32 dX12_isPassing_31 rfl ⟨by decide, rfl⟩ (by assumption) ?_
        rw [zI_clampN (by omega), e9]
        refine sw_if_ge 44 35 dX12_isPassing_32 (by decide) rfl (fun c32 => ?_) (fun c32 => ?_)
        · rw [z0, zI_le (by omega) (by omega) (by omega) (by omega)] at c32
          refine sw_aload_n 45 dX12_isPassing_44 rfl rfl rfl ?_
          refine sw_getR (b := 1) 48 dX12_isPassing_45 rfl gf_RX12_9 (fun _ _ _ _ => rfl) ⟨by decide, rfl⟩ rfl ?_
          refine sw_iload_n 49 dX12_isPassing_48 rfl rfl rfl ?_
          refine sw_iald 50 dX12_isPassing_49 rfl ⟨by decide, rfl⟩ (by assumption) ?_
          rw [zI_clampN (by omega), e1]
          refine sw_iload_n 51 dX12_isPassing_50 rfl rfl rfl ?_
          refine sw_irem 52 dX12_isPassing_51 rfl (by first | assumption | decide) ?_
          rw [zI_rem (by omega) (by omega) (by omega) (by omega), Int.tmod_eq_emod_of_nonneg (by omega)]
          refine sw_istore (lc' := [(0, _), (1, _), (2, _), (3, _), (4, _)]) 54 dX12_isPassing_52 rfl (by decide) rfl ?_
          refine sw_aload_n 55 dX12_isPassing_54 rfl rfl rfl ?_
          refine sw_getR (b := 9) 58 dX12_isPassing_55 rfl gf_RX12_37 (fun _ _ _ _ => rfl) ⟨by decide, rfl⟩ rfl ?_
          refine sw_iload_n 59 dX12_isPassing_58 rfl rfl rfl ?_
          refine sw_iald 60 dX12_isPassing_59 rfl ⟨by decide, rfl⟩ (by assumption) ?_
          rw [zI_clampN (by omega), e9]
          refine sw_aload_n 61 dX12_isPassing_60 rfl rfl rfl ?_
          refine sw_getR (b := 9) 64 dX12_isPassing_61 rfl gf_RX12_37 (fun _ _ _ _ => rfl) ⟨by decide, rfl⟩ rfl ?_
          refine sw_iload_n 65 dX12_isPassing_64 rfl rfl rfl ?_
          refine sw_iald 66 dX12_isPassing_65 rfl ⟨by decide, rfl⟩ (by assumption) ?_
          rw [zI_clampN (by omega), e9]
          refine sw_ineg 67 dX12_isPassing_66 rfl ?_
          rw [zI_neg]
          refine sw_invSI 70 dX12_isPassing_67 rfl lk_RX12_141 (c_maxZ (by omega) (by omega) (by omega) (by omega)) rfl rfl (Nat.le_of_ble_eq_true rfl) (fun r67 h67 hq67 => ?_)
          obtain ⟨rfl, rfl⟩ := hq67
          rw [hmx]
          refine sw_istore (lc' := [(0, _), (1, _), (2, _), (3, _), (4, _), (5, _)]) 72 dX12_isPassing_70 rfl (by decide) rfl ?_
          rw [if_neg (by omega)] at fin
          exact inner (p j % q) r0 r1 _ _ (by omega) rb.1 rb.2 fin
        · rw [z0, zI_le (by omega) (by omega) (by omega) (by omega)] at c32
          refine sw_aload_n 36 dX12_isPassing_35 rfl rfl rfl ?_
          refine sw_getR (b := 20) 39 dX12_isPassing_36 rfl gf_RX12_71 (fun _ _ _ _ => rfl) ⟨by decide, rfl⟩ rfl ?_
          refine sw_iload_n 40 dX12_isPassing_39 rfl rfl rfl ?_
          refine sw_iald 41 dX12_isPassing_40 rfl ⟨by decide, rfl⟩ (by assumption) ?_
          rw [zI_clampN (by omega), x0]
          refine sw_goto 52 dX12_isPassing_41 (by decide) ?_
          refine sw_istore (lc' := [(0, _), (1, _), (2, _), (3, _), (4, _)]) 54 dX12_isPassing_52 rfl (by decide) rfl ?_
          refine sw_aload_n 55 dX12_isPassing_54 rfl rfl rfl ?_
          refine sw_getR (b := 9) 58 dX12_isPassing_55 rfl gf_RX12_37 (fun _ _ _ _ => rfl) ⟨by decide, rfl⟩ rfl ?_
          refine sw_iload_n 59 dX12_isPassing_58 rfl rfl rfl ?_
          refine sw_iald 60 dX12_isPassing_59 rfl ⟨by decide, rfl⟩ (by assumption) ?_
          rw [zI_clampN (by omega), e9]
          refine sw_aload_n 61 dX12_isPassing_60 rfl rfl rfl ?_
          refine sw_getR (b := 9) 64 dX12_isPassing_61 rfl gf_RX12_37 (fun _ _ _ _ => rfl) ⟨by decide, rfl⟩ rfl ?_
          refine sw_iload_n 65 dX12_isPassing_64 rfl rfl rfl ?_
          refine sw_iald 66 dX12_isPassing_65 rfl ⟨by decide, rfl⟩ (by assumption) ?_
          rw [zI_clampN (by omega), e9]
          refine sw_ineg 67 dX12_isPassing_66 rfl ?_
          rw [zI_neg]
          refine sw_invSI 70 dX12_isPassing_67 rfl lk_RX12_141 (c_maxZ (by omega) (by omega) (by omega) (by omega)) rfl rfl (Nat.le_of_ble_eq_true rfl) (fun r67 h67 hq67 => ?_)
          obtain ⟨rfl, rfl⟩ := hq67
          rw [hmx]
          refine sw_istore (lc' := [(0, _), (1, _), (2, _), (3, _), (4, _), (5, _)]) 72 dX12_isPassing_70 rfl (by decide) rfl ?_
          rw [if_pos (by omega)] at fin
          exact inner x (by omega) (by omega) _ _ (by omega) rb.1 rb.2 fin
  have start : ∀ v : Int32, v = zI (resM q sg p e 0) → sw_wp wM X l (d + 1) mX12_isPassing Qc 16 [(0, .ref 0), (1, .int (zI q)), (2, .int v)] [] h := by
    intro v hv
    rw [hv]
    refine sw_iconst (v := zI 0) 17 dX12_isPassing_16 rfl (by decide) ?_
    refine sw_istore_n (lc' := [(0, _), (1, _), (2, _), (3, _)]) 18 dX12_isPassing_17 rfl rfl (by decide) rfl ?_
    exact loop n 0 (by omega)
  refine sw_aload_n 1 dX12_isPassing_0 rfl rfl rfl ?_
  refine sw_getI 4 dX12_isPassing_1 rfl gf_RX12_109 rfl ⟨by decide, rfl⟩ ?_
  rw [hS]
  refine sw_iconst (v := zI 1) 5 dX12_isPassing_4 rfl (by decide) ?_
  refine sw_icmp_ne 12 8 dX12_isPassing_5 (by decide) rfl (fun c5 => ?_) (fun c5 => ?_)
  · rw [zI_eq (by omega) (by omega) (by omega) (by omega)] at c5
    refine sw_iload_n 13 dX12_isPassing_12 rfl rfl rfl ?_
    refine sw_iconst (v := zI 1) 14 dX12_isPassing_13 rfl (by decide) ?_
    refine sw_isub 15 dX12_isPassing_14 rfl ?_
    refine sw_istore_n (lc' := [(0, _), (1, _), (2, _)]) 16 dX12_isPassing_15 rfl rfl (by decide) rfl ?_
    exact start _ (by rw [zI_sub]; unfold resM; rw [if_pos (by omega)])
  · rw [zI_eq (by omega) (by omega) (by omega) (by omega)] at c5
    refine sw_iconst (v := zI 1) 9 dX12_isPassing_8 rfl (by decide) ?_
    refine sw_goto 15 dX12_isPassing_9 (by decide) ?_
    refine sw_istore_n (lc' := [(0, _), (1, _), (2, _)]) 16 dX12_isPassing_15 rfl rfl (by decide) rfl ?_
    exact start _ (by unfold resM; rw [if_neg (by omega)])
theorem okQ_of (K : okS σ) {v : Int} (hv : faultZ σ v = 1) : okQ σ.1.1.1 σ.1.1.2.1 v.toNat := by
  obtain ⟨h1, h2, h3, h4⟩ := faultZ_1 hv
  have hn := (fndZ_none σ.1.1.1 0).mp h4
  refine ⟨by omega, by omega, by rw [show ((v.toNat : Nat) : Int) = v by omega]; exact h3, fun i hi => ?_⟩
  have hp := K.1.1.2.1 i hi
  exact ⟨hp.1, hp.2.1, hp.2.2, by rw [show ((v.toNat : Nat) : Int) = v by omega]; exact hn i (by omega) (by omega)⟩
theorem okQ_s (K : okS σ) {s : Nat} (hs : s < σ.1.2.2.1) : okQ σ.1.1.1 σ.1.1.2.1 (σ.1.2.2.2 s).toNat := by
  obtain ⟨h1, h2, h3, h4⟩ := K.1.2.2.2.1 s hs
  have e : (((σ.1.2.2.2 s).toNat : Nat) : Int) = σ.1.2.2.2 s := by omega
  refine ⟨by omega, by omega, by rw [e]; exact h1, fun i hi => ?_⟩
  have hp := K.1.1.2.1 i hi
  exact ⟨hp.1, hp.2.1, hp.2.2, by rw [e]; exact h4 i hi⟩
theorem m_order (K : okS σ) (I : IM h σ) {i v : Int} (i1 : -2147483648 ≤ i) (i2 : i < 2147483648) (v1 : -2147483648 ≤ v) (v2 : v < 2147483648) : sw_ct wM X l (d + 2) mX12_order [.ref 0, .int (zI i), .int (zI v)] h (sw_qI wM X fun r h2 => IM h2 σ ∧ r = zI (opOrder σ i v)) := by
  have hn := K.1.1.1
  have hp : ∀ i, i < σ.1.1.1 → 2 ≤ σ.1.1.2.1 i ∧ σ.1.1.2.1 i ≤ 31 := fun i hi => kB_2 K hi
  have fr := fndZ_in σ.1.1.2.1 v σ.1.1.1 0
  refine sw_ct_of (by decide +kernel) (Nat.le_of_ble_eq_true rfl) rfl ?_
  generalize hQ : (sw_qI wM X fun r h2 => IM h2 σ ∧ r = zI (opOrder σ i v)) = Qc
  have loop : ∀ (a q : Nat), i = (a : Nat) → v = (q : Nat) → a < σ.1.1.1 → okQ σ.1.1.1 σ.1.1.2.1 q → ∀ (c k : Nat) (r : Int), k + c ≤ 97 → 0 ≤ r → r < q → ¬ ordG q (σ.1.1.2.1 a) c k r = -1 → ordG q (σ.1.1.2.1 a) c k r = opOrder σ i v → sw_wp wM X l (d + 2) mX12_order Qc 43 [(0, .ref 0), (1, .int (zI i)), (2, .int (zI v)), (3, .int (zI k)), (4, .int (zI r))] [] h := by
    intro a q ia vq ha O c
    have o1 := O.1
    have o2 := O.2.1
    have hpa := hp a ha
    have hz : ¬ zI v = 0 := by rw [vq, z0, zI_eq (by omega) (by omega) (by omega) (by omega)]; omega
    have hin5 : vp_in (zI i) 5 := by rw [ia]; exact zI_inN (by omega) (by decide)
    have e1 : h.1 1 (zI i).toNatClampNeg = zI (σ.1.1.2.1 a) := by rw [ia, zI_clampN (by omega)]; exact (I.1.2 a ha).1
    induction c with
    | zero => intro k r _ _ _ hne; exact absurd rfl hne
    | succ c ih =>
      intro k r hk r0 r1 hne he
      have eo : ordG q (σ.1.1.2.1 a) (c + 1) k r = if r = 1 then (k : Int) else ordG q (σ.1.1.2.1 a) c (k + 1) (r * σ.1.1.2.1 a % q) := rfl
      have hmb := mulM_b (a := r) (p := σ.1.1.2.1 a) (by omega) (by omega) (by omega) (by omega)
      refine sw_iload 45 dX12_order_43 rfl rfl ?_
      refine sw_iconst (v := zI 1) 46 dX12_order_45 rfl (by decide) ?_
      refine sw_icmp_eq 68 49 dX12_order_46 (by decide) rfl (fun c46 => ?_) (fun c46 => ?_)
      · rw [zI_eq (by omega) (by omega) (by omega) (by omega)] at c46
        refine sw_iload_n 69 dX12_order_68 rfl rfl rfl ?_
        subst hQ
        exact sw_iret dX12_order_69 rfl (⟨I, by rw [← he, eo, if_pos c46]⟩)
      · rw [zI_eq (by omega) (by omega) (by omega) (by omega)] at c46
        refine sw_iload 51 dX12_order_49 rfl rfl ?_
        refine sw_aload_n 52 dX12_order_51 rfl rfl rfl ?_
        refine sw_getR (b := 1) 55 dX12_order_52 rfl gf_RX12_9 (fun _ _ _ _ => rfl) ⟨by decide, rfl⟩ rfl ?_
        refine sw_iload_n 56 dX12_order_55 rfl rfl rfl ?_
        refine sw_iald 57 dX12_order_56 rfl ⟨by decide, rfl⟩ (by assumption) ?_
        rw [e1]
        refine sw_imul 58 dX12_order_57 rfl ?_
        rw [zI_mul]
        refine sw_iload_n 59 dX12_order_58 rfl rfl rfl ?_
        refine sw_irem 60 dX12_order_59 rfl (by first | assumption | decide) ?_
        rw [zI_rem (by omega) (by omega) (by omega) (by omega), Int.tmod_eq_emod_of_nonneg (by omega)]
        refine sw_istore (lc' := [(0, _), (1, _), (2, _), (3, _), (4, _)]) 62 dX12_order_60 rfl (by decide) rfl ?_
        refine sw_iinc (v := zI 1) (lc' := [(0, _), (1, _), (2, _), (3, _), (4, _)]) 65 dX12_order_62 rfl (by decide) rfl rfl rfl ?_
        refine sw_goto 43 dX12_order_65 (by decide) ?_
        rw [zI_add, vq]
        rw [eo, if_neg c46] at hne he
        rw [vq] at ih he
        exact ih (k + 1) _ (by omega) (Int.emod_nonneg _ (by omega)) (Int.emod_lt_of_pos _ (by omega)) hne he
  refine sw_aload_n 1 dX12_order_0 rfl rfl rfl ?_
  refine sw_iload_n 2 dX12_order_1 rfl rfl rfl ?_
  refine sw_invVI 5 dX12_order_2 rfl lk_RX12_106 (m_isPrime I.1.1 (by omega) i1 i2) ⟨by decide, rfl⟩ rfl rfl (Nat.le_of_ble_eq_true rfl) (fun r2 h2 hq2 => ?_)
  obtain ⟨rfl, rfl⟩ := hq2
  refine sw_if_ne 10 8 dX12_order_5 (by decide) rfl (fun c5 => ?_) (fun c5 => ?_)
  · rw [ifz_eq, Decidable.not_not] at c5
    refine sw_iload_n 11 dX12_order_10 rfl rfl rfl ?_
    refine sw_invSI 14 dX12_order_11 rfl lk_RX12_210 (m_isSieve v1 v2) rfl rfl (Nat.le_of_ble_eq_true rfl) (fun r11 h11 hq11 => ?_)
    obtain ⟨rfl, rfl⟩ := hq11
    refine sw_if_ne 20 17 dX12_order_14 (by decide) rfl (fun c14 => ?_) (fun c14 => ?_)
    · rw [bIz_eq, Bool.not_eq_false] at c14
      refine sw_aload_n 21 dX12_order_20 rfl rfl rfl ?_
      refine sw_iload_n 22 dX12_order_21 rfl rfl rfl ?_
      refine sw_invVI 25 dX12_order_22 rfl lk_RX12_95 (m_placeOf I.1 (by omega) hp v1 v2) ⟨by decide, rfl⟩ rfl rfl (Nat.le_of_ble_eq_true rfl) (fun r22 h22 hq22 => ?_)
      obtain ⟨rfl, rfl⟩ := hq22
      refine sw_if_lt 31 28 dX12_order_25 (by decide) rfl (fun c25 => ?_) (fun c25 => ?_)
      · rw [z0, zI_lt (by omega) (by omega) (by omega) (by omega)] at c25
        have ef : faultZ σ v = 1 := by unfold faultZ; rw [if_neg (by rw [c14]; decide), if_pos (by omega)]
        have O := okQ_of K ef
        have hv := faultZ_1 ef
        obtain ⟨a, ia⟩ := Int.eq_ofNat_of_zero_le c5.1
        obtain ⟨q, vq⟩ := Int.eq_ofNat_of_zero_le (show 0 ≤ v by omega)
        have ha : a < σ.1.1.1 := by omega
        have hpa := hp a ha
        rw [vq, Int.toNat_natCast] at O
        have hz : ¬ zI v = 0 := by rw [vq, z0, zI_eq (by omega) (by omega) (by omega) (by omega)]; omega
        refine sw_iconst (v := zI 1) 32 dX12_order_31 rfl (by decide) ?_
        refine sw_istore_n (lc' := [(0, _), (1, _), (2, _), (3, _)]) 33 dX12_order_32 rfl rfl (by decide) rfl ?_
        refine sw_aload_n 34 dX12_order_33 rfl rfl rfl ?_
        refine sw_getR (b := 1) 37 dX12_order_34 rfl gf_RX12_9 (fun _ _ _ _ => rfl) ⟨by decide, rfl⟩ rfl ?_
        refine sw_iload_n 38 dX12_order_37 rfl rfl rfl ?_
        refine sw_iald 39 dX12_order_38 rfl ⟨by decide, rfl⟩ (by rw [ia]; exact zI_inN (by omega) (by decide)) ?_
        rw [show h22.1 1 (zI i).toNatClampNeg = zI (σ.1.1.2.1 a) by rw [ia, zI_clampN (by omega)]; exact (I.1.2 a ha).1]
        refine sw_iload_n 40 dX12_order_39 rfl rfl rfl ?_
        refine sw_irem 41 dX12_order_40 rfl (by first | assumption | decide) ?_
        rw [zI_rem (by omega) (by omega) (by omega) (by omega), Int.tmod_eq_emod_of_nonneg (by omega)]
        refine sw_istore (lc' := [(0, _), (1, _), (2, _), (3, _), (4, _)]) 43 dX12_order_41 rfl (by decide) rfl ?_
        have e1 : powM q (σ.1.1.2.1 a) 1 = σ.1.1.2.1 a % q := by show 1 * σ.1.1.2.1 a % (q : Int) = _; rw [Int.one_mul]
        have ok := ordG_ok (okQ_f O ha) (q - 2) 1 (by have := O.1; omega)
        have o1 := O.1
        have o2 := O.2.1
        rw [e1, show q - 2 + 1 = q - 1 by omega] at ok
        have eO : ordG q (σ.1.1.2.1 a) (q - 1) 1 (σ.1.1.2.1 a % q) = opOrder σ i v := by unfold opOrder; rw [if_pos c5, if_pos ef, ia, vq]; rfl
        have g := loop a q ia vq ha O (q - 1) 1 (σ.1.1.2.1 a % q) (by omega) (Int.emod_nonneg _ (by omega)) (Int.emod_lt_of_pos _ (by omega)) (by omega) eO
        rw [← vq] at g
        exact g
      · rw [z0, zI_lt (by omega) (by omega) (by omega) (by omega)] at c25
        have ef : faultZ σ v = -3 := by unfold faultZ; rw [if_neg (by rw [c14]; decide), if_neg (by omega)]
        subst hQ
        refine sw_bipush (v := zI (-3)) 30 dX12_order_28 rfl (by decide) ?_
        exact sw_iret dX12_order_30 rfl (by unfold opOrder; rw [if_pos c5, ef, if_neg (by decide)]; exact ⟨I, rfl⟩)
    · rw [bIz_eq] at c14
      have ef : faultZ σ v = -2 := by unfold faultZ; rw [if_pos c14]
      subst hQ
      refine sw_bipush (v := zI (-2)) 19 dX12_order_17 rfl (by decide) ?_
      exact sw_iret dX12_order_19 rfl (by unfold opOrder; rw [if_pos c5, ef, if_neg (by decide)]; exact ⟨I, rfl⟩)
  · rw [ifz_eq] at c5
    subst hQ
    refine sw_iconst (v := zI (-1)) 9 dX12_order_8 rfl (by decide) ?_
    exact sw_iret dX12_order_9 rfl (by unfold opOrder; rw [if_neg c5]; exact ⟨I, rfl⟩)
theorem m_reach (K : okS σ) (I : IM h σ) {v : Int} (v1 : -2147483648 ≤ v) (v2 : v < 2147483648) : sw_ct wM X l (d + 2) mX12_reach [.ref 0, .int (zI v)] h (sw_qI wM X fun r h2 => IM h2 σ ∧ r = zI (opReach σ v)) := by
  have hn := K.1.1.1
  have hp : ∀ i, i < σ.1.1.1 → 2 ≤ σ.1.1.2.1 i ∧ σ.1.1.2.1 i ≤ 31 := fun i hi => kB_2 K hi
  have fr := fndZ_in σ.1.1.2.1 v σ.1.1.1 0
  refine sw_ct_of (by decide +kernel) (Nat.le_of_ble_eq_true rfl) rfl ?_
  refine sw_iload_n 1 dX12_reach_0 rfl rfl rfl ?_
  refine sw_invSI 4 dX12_reach_1 rfl lk_RX12_210 (m_isSieve v1 v2) rfl rfl (Nat.le_of_ble_eq_true rfl) (fun r1 h1 hq1 => ?_)
  obtain ⟨rfl, rfl⟩ := hq1
  refine sw_if_ne 10 7 dX12_reach_4 (by decide) rfl (fun c4 => ?_) (fun c4 => ?_)
  · rw [bIz_eq, Bool.not_eq_false] at c4
    refine sw_aload_n 11 dX12_reach_10 rfl rfl rfl ?_
    refine sw_iload_n 12 dX12_reach_11 rfl rfl rfl ?_
    refine sw_invVI 15 dX12_reach_12 rfl lk_RX12_95 (m_placeOf I.1 (by omega) hp v1 v2) ⟨by decide, rfl⟩ rfl rfl (Nat.le_of_ble_eq_true rfl) (fun r12 h12 hq12 => ?_)
    obtain ⟨rfl, rfl⟩ := hq12
    refine sw_if_lt 23 18 dX12_reach_15 (by decide) rfl (fun c15 => ?_) (fun c15 => ?_)
    · rw [z0, zI_lt (by omega) (by omega) (by omega) (by omega)] at c15
      have ef : faultZ σ v = 1 := by unfold faultZ; rw [if_neg (by rw [c4]; decide), if_pos (by omega)]
      have O := okQ_of K ef
      have hv := faultZ_1 ef
      obtain ⟨q, vq⟩ := Int.eq_ofNat_of_zero_le (show 0 ≤ v by omega)
      rw [vq, Int.toNat_natCast] at O
      rw [vq]
      refine sw_aload_n 24 dX12_reach_23 rfl rfl rfl ?_
      refine sw_iload_n 25 dX12_reach_24 rfl rfl rfl ?_
      refine sw_invVI 28 dX12_reach_25 rfl lk_RX12_213 (m_reaches I.1 hn O) ⟨by decide, rfl⟩ rfl rfl (Nat.le_of_ble_eq_true rfl) (fun r25 h25 hq25 => ?_)
      obtain ⟨A, rfl, -⟩ := hq25
      exact sw_iret dX12_reach_28 rfl (by
  rw [← vq]
  unfold opReach; rw [ef, if_pos rfl, vq]
  exact ⟨IM_fr I A (by decide) (by decide), rfl⟩)
    · rw [z0, zI_lt (by omega) (by omega) (by omega) (by omega)] at c15
      have ef : faultZ σ v = -3 := by unfold faultZ; rw [if_neg (by rw [c4]; decide), if_neg (by omega)]
      refine sw_bipush (v := zI (-3)) 20 dX12_reach_18 rfl (by decide) ?_
      refine sw_goto 28 dX12_reach_20 (by decide) ?_
      exact sw_iret dX12_reach_28 rfl (by unfold opReach; rw [ef, if_neg (by decide)]; exact ⟨I, rfl⟩)
  · rw [bIz_eq] at c4
    have ef : faultZ σ v = -2 := by unfold faultZ; rw [if_pos c4]
    refine sw_bipush (v := zI (-2)) 9 dX12_reach_7 rfl (by decide) ?_
    exact sw_iret dX12_reach_9 rfl (by unfold opReach; rw [ef, if_neg (by decide)]; exact ⟨I, rfl⟩)
theorem m_passes (K : okS σ) (I : IM h σ) {s v : Int} (s1 : -2147483648 ≤ s) (s2 : s < 2147483648) (v1 : -2147483648 ≤ v) (v2 : v < 2147483648) : sw_ct wM X l (d + 2) mX12_passes [.ref 0, .int (zI s), .int (zI v)] h (sw_qI wM X fun r h2 => IM h2 σ ∧ r = zI (opPasses σ s v)) := by
  have hn := K.1.1.1
  have hp : ∀ i, i < σ.1.1.1 → 2 ≤ σ.1.1.2.1 i ∧ σ.1.1.2.1 i ≤ 31 := fun i hi => kB_2 K hi
  have fr := fndZ_in σ.1.1.2.1 v σ.1.1.1 0
  refine sw_ct_of (by decide +kernel) (Nat.le_of_ble_eq_true rfl) rfl ?_
  refine sw_iload_n 1 dX12_passes_0 rfl rfl rfl ?_
  refine sw_invSI 4 dX12_passes_1 rfl lk_RX12_132 (m_isShelf s1 s2) rfl rfl (Nat.le_of_ble_eq_true rfl) (fun r1 h1 hq1 => ?_)
  obtain ⟨rfl, rfl⟩ := hq1
  refine sw_if_ne 9 7 dX12_passes_4 (by decide) rfl (fun c4 => ?_) (fun c4 => ?_)
  · rw [ifz_eq, Decidable.not_not] at c4
    refine sw_iload_n 10 dX12_passes_9 rfl rfl rfl ?_
    refine sw_invSI 13 dX12_passes_10 rfl lk_RX12_210 (m_isSieve v1 v2) rfl rfl (Nat.le_of_ble_eq_true rfl) (fun r10 h10 hq10 => ?_)
    obtain ⟨rfl, rfl⟩ := hq10
    refine sw_if_ne 19 16 dX12_passes_13 (by decide) rfl (fun c13 => ?_) (fun c13 => ?_)
    · rw [bIz_eq, Bool.not_eq_false] at c13
      refine sw_aload_n 20 dX12_passes_19 rfl rfl rfl ?_
      refine sw_iload_n 21 dX12_passes_20 rfl rfl rfl ?_
      refine sw_invVI 24 dX12_passes_21 rfl lk_RX12_95 (m_placeOf I.1 (by omega) hp v1 v2) ⟨by decide, rfl⟩ rfl rfl (Nat.le_of_ble_eq_true rfl) (fun r21 h21 hq21 => ?_)
      obtain ⟨rfl, rfl⟩ := hq21
      refine sw_if_lt 30 27 dX12_passes_24 (by decide) rfl (fun c24 => ?_) (fun c24 => ?_)
      · rw [z0, zI_lt (by omega) (by omega) (by omega) (by omega)] at c24
        have ef : faultZ σ v = 1 := by unfold faultZ; rw [if_neg (by rw [c13]; decide), if_pos (by omega)]
        have O := okQ_of K ef
        have hv := faultZ_1 ef
        obtain ⟨q, rfl⟩ := Int.eq_ofNat_of_zero_le (show 0 ≤ v by omega)
        obtain ⟨a, rfl⟩ := Int.eq_ofNat_of_zero_le c4.1
        have ha : a < 4 := by omega
        rw [Int.toNat_natCast] at O
        refine sw_aload_n 31 dX12_passes_30 rfl rfl rfl ?_
        refine sw_iload_n 32 dX12_passes_31 rfl rfl rfl ?_
        refine sw_invVI 35 dX12_passes_32 rfl lk_RX12_213 (m_reaches I.1 hn O) ⟨by decide, rfl⟩ rfl rfl (Nat.le_of_ble_eq_true rfl) (fun r32 h32 hq32 => ?_)
        obtain ⟨A, rfl, M1⟩ := hq32
        have I2 := IM_fr I A (by decide) (by decide)
        refine sw_istore_n (lc' := [(0, _), (1, _), (2, _), (3, _)]) 36 dX12_passes_35 rfl rfl (by decide) rfl ?_
        refine sw_aload_n 37 dX12_passes_36 rfl rfl rfl ?_
        refine sw_iload_n 38 dX12_passes_37 rfl rfl rfl ?_
        refine sw_invVV 41 dX12_passes_38 rfl lk_RX12_219 (m_layInverses I2.1 hn O) ⟨by decide, rfl⟩ rfl rfl (Nat.le_of_ble_eq_true rfl) (fun h38 hq38 => ?_)
        obtain ⟨A2, D⟩ := hq38
        have I3 := IM_fr I2 A2 (by decide) (by decide)
        refine sw_aload_n 42 dX12_passes_41 rfl rfl rfl ?_
        refine sw_iload_n 43 dX12_passes_42 rfl rfl rfl ?_
        refine sw_invVV 46 dX12_passes_43 rfl lk_RX12_137 (m_looks K I3 ha) ⟨by decide, rfl⟩ rfl rfl (Nat.le_of_ble_eq_true rfl) (fun h43 hq43 => ?_)
        obtain ⟨A3, R, S⟩ := hq43
        have I4 := IM_fr I3 A3 (by decide) (by decide)
        refine sw_aload_n 47 dX12_passes_46 rfl rfl rfl ?_
        refine sw_iload_n 48 dX12_passes_47 rfl rfl rfl ?_
        refine sw_invVI 51 dX12_passes_48 rfl lk_RX12_222 (m_isPassing I4.1 hn O R (fun i hi => e6 K ha hi) S (K.1.2.1 a ha).1 (fun i hi => by rw [A3.1 20 (by decide) (by decide)]; exact D i hi) (fun r hr => by rw [A3.1 19 (by decide) (by decide), A2.1 19 (by decide) (by decide)]; exact M1 r hr)) ⟨by decide, rfl⟩ rfl rfl (Nat.le_of_ble_eq_true rfl) (fun r48 h48 hq48 => ?_)
        obtain ⟨rfl, rfl⟩ := hq48
        refine sw_if_eq 58 54 dX12_passes_51 (by decide) rfl (fun c51 => ?_) (fun c51 => ?_)
        · refine sw_iconst (v := zI 0) 59 dX12_passes_58 rfl (by decide) ?_
          exact sw_iret dX12_passes_59 rfl (by
  rw [bIz_eq] at c51
  unfold opPasses; rw [if_pos c4, ef, if_pos rfl]
  exact ⟨I4, by rw [if_neg (by rw [show mkM ((q : Nat) : Int).toNat σ.1.1.1 σ.1.1.2.1 ((1 - resM ((q : Nat) : Int).toNat (σ.1.2.1.1 ((a : Nat) : Int).toNat) σ.1.1.2.1 (σ.1.2.1.2 ((a : Nat) : Int).toNat) σ.1.1.1) % ((q : Nat) : Int)).toNat = false from c51]; decide)]⟩)
        · refine sw_iconst (v := zI 1) 55 dX12_passes_54 rfl (by decide) ?_
          refine sw_goto 59 dX12_passes_55 (by decide) ?_
          exact sw_iret dX12_passes_59 rfl (by
  rw [bIz_eq, Bool.not_eq_false] at c51
  unfold opPasses; rw [if_pos c4, ef, if_pos rfl]
  exact ⟨I4, by rw [if_pos (show mkM ((q : Nat) : Int).toNat σ.1.1.1 σ.1.1.2.1 ((1 - resM ((q : Nat) : Int).toNat (σ.1.2.1.1 ((a : Nat) : Int).toNat) σ.1.1.2.1 (σ.1.2.1.2 ((a : Nat) : Int).toNat) σ.1.1.1) % ((q : Nat) : Int)).toNat = true from c51)]⟩)
      · rw [z0, zI_lt (by omega) (by omega) (by omega) (by omega)] at c24
        have ef : faultZ σ v = -3 := by unfold faultZ; rw [if_neg (by rw [c13]; decide), if_neg (by omega)]
        refine sw_bipush (v := zI (-3)) 29 dX12_passes_27 rfl (by decide) ?_
        exact sw_iret dX12_passes_29 rfl (by unfold opPasses; rw [if_pos c4, ef, if_neg (by decide)]; exact ⟨I, rfl⟩)
    · rw [bIz_eq] at c13
      have ef : faultZ σ v = -2 := by unfold faultZ; rw [if_pos c13]
      refine sw_bipush (v := zI (-2)) 18 dX12_passes_16 rfl (by decide) ?_
      exact sw_iret dX12_passes_18 rfl (by unfold opPasses; rw [if_pos c4, ef, if_neg (by decide)]; exact ⟨I, rfl⟩)
  · rw [ifz_eq] at c4
    refine sw_iconst (v := zI (-1)) 8 dX12_passes_7 rfl (by decide) ?_
    exact sw_iret dX12_passes_8 rfl (by unfold opPasses; rw [if_neg c4]; exact ⟨I, rfl⟩)
end sw_m11
