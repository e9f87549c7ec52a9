/-! THE REFERENCE, 15: answers looked up, filmed, judged, drawn -/
theorem wh_at {T : TbZ} (hs : srtZ T) {a b : Int} {k : Nat} (hk : k < T.1) (ea : T.2.1 k = a) (eb : T.2.2.1 k = b) : whT T a b = k := by
  have e := plT_of hs hk
  rw [ea, eb] at e
  unfold whT
  rw [e, if_pos ⟨hk, ea, eb⟩]
theorem wh_no {T : TbZ} (hs : srtZ T) {a b : Int} (h : ¬ inT T a b) : whT T a b = -1 := by
  unfold whT
  rw [if_neg]
  exact fun q => h ((inT_at hs).mpr q)
theorem wh_in {T : TbZ} (hs : srtZ T) {a b : Int} : 0 ≤ whT T a b ↔ inT T a b := by
  refine ⟨fun q => ?_, fun ⟨k, h1, h2, h3⟩ => by rw [wh_at hs h1 h2 h3]; omega⟩
  refine Classical.byContradiction fun c => ?_
  rw [wh_no hs c] at q
  omega
section sw_m15
variable {X : sw_X} {l : Launch} {d : Nat} {h : sw_H} {σ : SgZ} {n : Nat} {p bx : Nat → Int}
theorem m_answerBy {T : TbZ} (W : tbM h n p T) (hs : srtZ T) {a b : Int} (a1 : a.natAbs < 4611686018427387904) (b1 : b.natAbs < 4611686018427387904) : sw_ct wM X l d mX12_answerBy [.ref 0, .long (zL a), .long (zL b)] h (sw_qI wM X fun r h2 => h2 = h ∧ r = zI (if whT T a b < 0 then -5 else whT T a b)) := by
  have hN := W.2.1.1
  refine sw_ct_of (by decide +kernel) (Nat.le_of_ble_eq_true rfl) rfl ?_
  have loop : ∀ (c k : Nat), k + c = T.1 → (∀ i, i < k → ¬ (T.2.1 i = a ∧ T.2.2.1 i = b)) → sw_wp wM X l d mX12_answerBy (sw_qI wM X fun r h2 => h2 = h ∧ r = zI (if whT T a b < 0 then -5 else whT T a b)) 3 [(0, .ref 0), (1, .long (zL a)), (3, .long (zL b)), (5, .int (zI k))] [] h := by
    intro c
    induction c with
    | zero =>
      intro k hk H
      have : k = T.1 := by omega
      subst this
      refine sw_iload 5 dX12_answerBy_3 rfl rfl ?_
      refine sw_aload_n 6 dX12_answerBy_5 rfl rfl rfl ?_
      refine sw_getI 9 dX12_answerBy_6 rfl gf_RX12_167 rfl ⟨by decide, rfl⟩ ?_
      rw [W.1]
      refine sw_icmp_ge 45 12 dX12_answerBy_9 (by decide) rfl (fun c9 => ?_) (fun c9 => ?_)
      · refine sw_bipush (v := zI (-5)) 47 dX12_answerBy_45 rfl (by decide) ?_
        exact sw_iret dX12_answerBy_47 rfl (⟨rfl, by rw [wh_no hs (fun ⟨i, h1, h2⟩ => H i h1 h2), if_pos (by decide)]⟩)
      · exact absurd (Int32.le_refl _) c9
    | succ c ih =>
      intro k hk H
      have row := W.2.2 k (by omega)
      have ok := W.2.1.2 k (by omega)
      have hin := zI_inN (a := k) (n := 800) (by omega) (by decide)
      refine sw_iload 5 dX12_answerBy_3 rfl rfl ?_
      refine sw_aload_n 6 dX12_answerBy_5 rfl rfl rfl ?_
      refine sw_getI 9 dX12_answerBy_6 rfl gf_RX12_167 rfl ⟨by decide, rfl⟩ ?_
      rw [W.1]
      refine sw_icmp_ge 45 12 dX12_answerBy_9 (by decide) rfl (fun c9 => ?_) (fun c9 => ?_)
      · exact absurd c9 (by rw [zI_le (by omega) (by omega) (by omega) (by omega)]; omega)
      · refine sw_aload_n 13 dX12_answerBy_12 rfl rfl rfl ?_
        refine sw_getR (b := 14) 16 dX12_answerBy_13 rfl gf_RX12_52 (fun _ _ _ _ => rfl) ⟨by decide, rfl⟩ rfl ?_
        refine sw_iload 18 dX12_answerBy_16 rfl rfl ?_
        refine sw_lald 19 dX12_answerBy_18 rfl ⟨by decide, rfl⟩ (by assumption) ?_
        rw [zI_clampN (by omega), row.1]
        refine sw_lload_n 20 dX12_answerBy_19 rfl rfl rfl ?_
        refine sw_lcmp 21 dX12_answerBy_20 rfl ?_
        refine sw_if_ne 39 24 dX12_answerBy_21 (by decide) rfl (fun c21 => ?_) (fun c21 => ?_)
        · refine sw_iinc (v := zI 1) (lc' := [(0, _), (1, _), (3, _), (5, _)]) 42 dX12_answerBy_39 rfl (by decide) rfl rfl rfl ?_
          refine sw_goto 3 dX12_answerBy_42 (by decide) ?_
          rw [lc_eq, zL_eq (by omega) (by omega) (by omega) (by omega)] at c21
          rw [zI_add]
          refine ih (k + 1) (by omega) (fun i hi q => ?_)
          by_cases e : i = k
          · subst e; exact c21 q.1
          · exact H i (by omega) q
        · rw [lc_eq, zL_eq (by omega) (by omega) (by omega) (by omega)] at c21
          refine sw_aload_n 25 dX12_answerBy_24 rfl rfl rfl ?_
          refine sw_getR (b := 15) 28 dX12_answerBy_25 rfl gf_RX12_55 (fun _ _ _ _ => rfl) ⟨by decide, rfl⟩ rfl ?_
          refine sw_iload 30 dX12_answerBy_28 rfl rfl ?_
          refine sw_lald 31 dX12_answerBy_30 rfl ⟨by decide, rfl⟩ (by assumption) ?_
          rw [zI_clampN (by omega), row.2.1]
          refine sw_lload_n 32 dX12_answerBy_31 rfl rfl rfl ?_
          refine sw_lcmp 33 dX12_answerBy_32 rfl ?_
          refine sw_if_ne 39 36 dX12_answerBy_33 (by decide) rfl (fun c33 => ?_) (fun c33 => ?_)
          · refine sw_iinc (v := zI 1) (lc' := [(0, _), (1, _), (3, _), (5, _)]) 42 dX12_answerBy_39 rfl (by decide) rfl rfl rfl ?_
            refine sw_goto 3 dX12_answerBy_42 (by decide) ?_
            rw [lc_eq, zL_eq (by omega) (by omega) (by omega) (by omega)] at c33
            rw [zI_add]
            refine ih (k + 1) (by omega) (fun i hi q => ?_)
            by_cases e : i = k
            · subst e; exact c33 q.2
            · exact H i (by omega) q
          · rw [lc_eq, zL_eq (by omega) (by omega) (by omega) (by omega)] at c33
            refine sw_iload 38 dX12_answerBy_36 rfl rfl ?_
            exact sw_iret dX12_answerBy_38 rfl (⟨rfl, by rw [wh_at hs (by omega) c21 c33, if_neg (by omega)]⟩)
  refine sw_iconst (v := zI 0) 1 dX12_answerBy_0 rfl (by decide) ?_
  refine sw_istore (lc' := [(0, _), (1, _), (3, _), (5, _)]) 3 dX12_answerBy_1 rfl (by decide) rfl ?_
  exact loop T.1 0 (by omega) (fun i hi => absurd hi (Nat.not_lt_zero i))
theorem m_which (K : okS σ) (I : IM h σ) {s : Int} (s1 : -2147483648 ≤ s) (s2 : s < 2147483648) : sw_ct wM X l (d + 4) mX12_which [.ref 0, .int (zI s)] h (sw_qI wM X fun r h2 => IM h2 σ ∧ r = zI (opWhich (tabS σ) σ s)) := by
  have hn := K.1.1.1
  have hpb : ∀ i, i < σ.1.1.1 → 2 ≤ σ.1.1.2.1 i ∧ σ.1.1.2.1 i ≤ 31 := fun i hi => kB_2 K hi
  refine sw_ct_of (by decide +kernel) (Nat.le_of_ble_eq_true rfl) rfl ?_
  refine sw_iload_n 1 dX12_which_0 rfl rfl rfl ?_
  refine sw_invSI 4 dX12_which_1 rfl lk_RX12_132 (m_isShelf s1 s2) rfl rfl (Nat.le_of_ble_eq_true rfl) (fun r1 h1 hq1 => ?_)
  obtain ⟨rfl, rfl⟩ := hq1
  refine sw_if_ne 9 7 dX12_which_4 (by decide) rfl (fun c4 => ?_) (fun c4 => ?_)
  · rw [ifz_eq, Decidable.not_not] at c4
    obtain ⟨a, rfl⟩ := Int.eq_ofNat_of_zero_le c4.1
    have ha : a < 4 := by omega
    have he100 : ∀ i, i < σ.1.1.1 → -100 ≤ σ.1.2.1.2 a i ∧ σ.1.2.1.2 a i ≤ 100 := fun i hi => by have := e6 K ha hi; omega
    have b9 := shAB_b K ha
    refine sw_aload_n 10 dX12_which_9 rfl rfl rfl ?_
    refine sw_invVV 13 dX12_which_10 rfl lk_RX12_182 (m_layS K I) ⟨by decide, rfl⟩ rfl rfl (Nat.le_of_ble_eq_true rfl) (fun h10 hq10 => ?_)
    obtain ⟨I2, W⟩ := hq10
    refine sw_aload_n 14 dX12_which_13 rfl rfl rfl ?_
    refine sw_iload_n 15 dX12_which_14 rfl rfl rfl ?_
    refine sw_invVV 18 dX12_which_15 rfl lk_RX12_137 (m_looks K I2 ha) ⟨by decide, rfl⟩ rfl rfl (Nat.le_of_ble_eq_true rfl) (fun h15 hq15 => ?_)
    obtain ⟨B, R, S⟩ := hq15
    have I3 := IM_fr I2 B (by decide) (by decide)
    have W3 := tbM_fr W B (by decide) (by decide)
    refine sw_aload_n 19 dX12_which_18 rfl rfl rfl ?_
    refine sw_aload_n 20 dX12_which_19 rfl rfl rfl ?_
    refine sw_aload_n 21 dX12_which_20 rfl rfl rfl ?_
    refine sw_getR (b := 9) 24 dX12_which_21 rfl gf_RX12_37 (fun _ _ _ _ => rfl) ⟨by decide, rfl⟩ rfl ?_
    refine sw_aload_n 25 dX12_which_24 rfl rfl rfl ?_
    refine sw_getI 28 dX12_which_25 rfl gf_RX12_109 rfl ⟨by decide, rfl⟩ ?_
    rw [S]
    refine sw_invVL 31 dX12_which_28 rfl lk_RX12_116 (m_aboveOf I3.1 hn hpb r9 R he100 (K.1.2.1 a ha).1) ⟨by decide, rfl⟩ rfl rfl (Nat.le_of_ble_eq_true rfl) (fun r28 h28 hq28 => ?_)
    obtain ⟨rfl, rfl⟩ := hq28
    rw [show σ.1.2.1.1 a * sideZ σ.1.1.2.1 (σ.1.2.1.2 a) 1 σ.1.1.1 = shA0 σ a from rfl]
    refine sw_aload_n 32 dX12_which_31 rfl rfl rfl ?_
    refine sw_aload_n 33 dX12_which_32 rfl rfl rfl ?_
    refine sw_getR (b := 9) 36 dX12_which_33 rfl gf_RX12_37 (fun _ _ _ _ => rfl) ⟨by decide, rfl⟩ rfl ?_
    refine sw_invVL 39 dX12_which_36 rfl lk_RX12_112 (m_belowOf I3.1 hn hpb r9 R he100) ⟨by decide, rfl⟩ rfl rfl (Nat.le_of_ble_eq_true rfl) (fun r36 h36 hq36 => ?_)
    obtain ⟨rfl, rfl⟩ := hq36
    rw [show sideZ σ.1.1.2.1 (σ.1.2.1.2 a) (-1) σ.1.1.1 = shB0 σ a from rfl]
    refine sw_invVI 42 dX12_which_39 rfl lk_RX12_188 (m_answerBy W3 (tab_srt K.1.1) (a := shA0 σ a) (b := shB0 σ a) (by omega) (by omega)) ⟨by decide, rfl⟩ rfl rfl (Nat.le_of_ble_eq_true rfl) (fun r39 h39 hq39 => ?_)
    obtain ⟨rfl, rfl⟩ := hq39
    exact sw_iret dX12_which_42 rfl (by
  unfold opWhich; rw [if_pos c4]; exact ⟨I3, rfl⟩)
  · refine sw_iconst (v := zI (-1)) 8 dX12_which_7 rfl (by decide) ?_
    exact sw_iret dX12_which_8 rfl (by
  rw [ifz_eq] at c4
  unfold opWhich; rw [if_neg c4]; exact ⟨I, rfl⟩)
theorem film_loopM {g : sw_H} {a m L : Nat} (K : okS σ) (I2 : IM g σ) (W : tbM g σ.1.1.1 σ.1.1.2.1 (tabS σ)) (ha : a < 3) (hm : m < (tabS σ).1) (hL : min 10 ((tabS σ).1 - (m : Int)) = (L : Nat)) : ∀ (c k : Nat) (F : Nat → Int64), k + c = L → (∀ t, t < 2 * k → F (20 * a + t) = tolR (tabS σ) m t) → (∀ i, i < 20 * a ∨ 20 * a + 20 ≤ i → F i = g.2 8 i) → sw_wp wM X l (d + 4) mX12_film (sw_qI wM X fun r h2 => IM h2 (setLs σ a (2 * min 10 ((tabS σ).1 - (m : Int))) (fun k => tolR (tabS σ) m k)) ∧ r = zI (min 10 ((tabS σ).1 - (m : Int)))) 51 [(0, .ref 0), (1, .int (zI a)), (2, .int (zI m)), (3, .int (zI L)), (4, .int (zI k))] [] (sw_wI (sw_pL g 8 F) 7 a (zI (2 * (L : Int)))) := by
  have hN := tabS_264 K
  intro c
  induction c with
  | zero =>
    intro k F hk hF hG
    have : k = L := by omega
    subst this
    refine sw_iload 53 dX12_film_51 rfl rfl ?_
    refine sw_iload_n 54 dX12_film_53 rfl rfl rfl ?_
    refine sw_icmp_ge 111 57 dX12_film_54 (by decide) rfl (fun c54 => ?_) (fun c54 => ?_)
    · refine sw_iload_n 112 dX12_film_111 rfl rfl rfl ?_
      exact sw_iret dX12_film_112 rfl (by
  have A : frM [7, 8] [] g (sw_wI (sw_pL g 8 F) 7 a (zI (2 * (k : Int)))) := ⟨fun b h1 h2 => sw_wI_ne (fun e => h2 (by rw [e]; decide)), fun b hb => sw_pL_ne (fun e => hb (by rw [e]; decide)), fun k _ => by rw [sw_wI_ne (by decide)]; rfl⟩
  rw [hL]
  refine ⟨IM_ls A I2 rfl rfl (by decide) (by decide) ⟨by rw [A.2.2 8 (by decide)]; exact I2.2.2.2.2.1.1, fun i hi => by rw [A.1 6 (by decide) (by decide)]; exact I2.2.2.2.2.1.2 i hi⟩ (fun t ht => ?_), rfl⟩
  show _ = zI (va_up σ.2.2.2.1 a (2 * (k : Int)) t) ∧ ∀ i : Nat, (i : Int) < va_up σ.2.2.2.1 a (2 * (k : Int)) t → _ = va_up σ.2.2.2.2 a (fun k => tolR (tabS σ) m k) t i
  have it := I2.2.2.2.2.2 t ht
  rw [sw_wI_at]
  unfold va_up
  by_cases c : t = a
  · rw [if_pos c, if_pos c, if_pos c]
    exact ⟨rfl, fun i hi => by show F (20 * t + i) = _; rw [c]; exact hF i (by omega)⟩
  · rw [if_neg c, if_neg c, if_neg c]
    refine ⟨it.1, fun i hi => ?_⟩
    have kz := K.2.2.2 t ht
    show F (20 * t + i) = _
    rw [hG (20 * t + i) (by omega)]
    exact it.2 i hi)
    · exact absurd (Int32.le_refl _) c54
  | succ c ih =>
    intro k F hk hF hG
    have e1 : zI 20 * zI a + zI 2 * zI k = zI ((20 * a + 2 * k : Nat) : Int) := by rw [zI_mul, zI_mul, zI_add]; rfl
    have e2 : zI ((20 * a + 2 * k : Nat) : Int) + zI 1 = zI ((20 * a + 2 * k + 1 : Nat) : Int) := by rw [zI_add]; rfl
    have e3 : zI m + zI k = zI ((m + k : Nat) : Int) := by rw [zI_add]; rfl
    have hin1 := zI_inN (a := 20 * a + 2 * k) (n := 60) (by omega) (by decide)
    have hin2 := zI_inN (a := 20 * a + 2 * k + 1) (n := 60) (by omega) (by decide)
    have hin3 := zI_inN (a := m + k) (n := 800) (by omega) (by decide)
    have row := W.2.2 (m + k) (by omega)
    have v14 : ∀ F, (sw_wI (sw_pL g 8 F) 7 a (zI (2 * (L : Int)))).2 14 (m + k) = zL ((tabS σ).2.1 (m + k)) := fun F => by show (sw_pL g 8 F).2 14 (m + k) = _; rw [sw_pL_ne (by decide)]; exact row.1
    have v15 : ∀ F, (sw_wI (sw_pL g 8 F) 7 a (zI (2 * (L : Int)))).2 15 (m + k) = zL ((tabS σ).2.2.1 (m + k)) := fun F => by show (sw_pL g 8 F).2 15 (m + k) = _; rw [sw_pL_ne (by decide)]; exact row.2.1
    refine sw_iload 53 dX12_film_51 rfl rfl ?_
    refine sw_iload_n 54 dX12_film_53 rfl rfl rfl ?_
    refine sw_icmp_ge 111 57 dX12_film_54 (by decide) rfl (fun c54 => ?_) (fun c54 => ?_)
    · exact absurd c54 (by rw [zI_le (by omega) (by omega) (by omega) (by omega)]; omega)
    · refine sw_aload_n 58 dX12_film_57 rfl rfl rfl ?_
      refine sw_getR (b := 8) 61 dX12_film_58 rfl gf_RX12_33 (fun _ _ _ _ => rfl) ⟨by decide, rfl⟩ rfl ?_
      refine sw_bipush (v := zI 20) 63 dX12_film_61 rfl (by decide) ?_
      refine sw_iload_n 64 dX12_film_63 rfl rfl rfl ?_
      refine sw_imul 65 dX12_film_64 rfl ?_
      refine sw_iconst (v := zI 2) 66 dX12_film_65 rfl (by decide) ?_
      refine sw_iload 68 dX12_film_66 rfl rfl ?_
      refine sw_imul 69 dX12_film_68 rfl ?_
      refine sw_iadd 70 dX12_film_69 rfl ?_
      rw [e1]
      refine sw_aload_n 71 dX12_film_70 rfl rfl rfl ?_
      refine sw_getR (b := 14) 74 dX12_film_71 rfl gf_RX12_52 (fun _ _ _ _ => rfl) ⟨by decide, rfl⟩ rfl ?_
      refine sw_iload_n 75 dX12_film_74 rfl rfl rfl ?_
      refine sw_iload 77 dX12_film_75 rfl rfl ?_
      refine sw_iadd 78 dX12_film_77 rfl ?_
      rw [e3]
      refine sw_lald 79 dX12_film_78 rfl ⟨by decide, rfl⟩ (by assumption) ?_
      rw [zI_clampN (by omega), v14]
      refine sw_last 80 dX12_film_79 rfl ⟨by decide, rfl⟩ (by assumption) ?_
      rw [zI_clampN (by omega), wLI]
      refine sw_aload_n 81 dX12_film_80 rfl rfl rfl ?_
      refine sw_getR (b := 8) 84 dX12_film_81 rfl gf_RX12_33 (fun _ _ _ _ => rfl) ⟨by decide, rfl⟩ rfl ?_
      refine sw_bipush (v := zI 20) 86 dX12_film_84 rfl (by decide) ?_
      refine sw_iload_n 87 dX12_film_86 rfl rfl rfl ?_
      refine sw_imul 88 dX12_film_87 rfl ?_
      refine sw_iconst (v := zI 2) 89 dX12_film_88 rfl (by decide) ?_
      refine sw_iload 91 dX12_film_89 rfl rfl ?_
      refine sw_imul 92 dX12_film_91 rfl ?_
      refine sw_iadd 93 dX12_film_92 rfl ?_
      rw [e1]
      refine sw_iconst (v := zI 1) 94 dX12_film_93 rfl (by decide) ?_
      refine sw_iadd 95 dX12_film_94 rfl ?_
      rw [e2]
      refine sw_aload_n 96 dX12_film_95 rfl rfl rfl ?_
      refine sw_getR (b := 15) 99 dX12_film_96 rfl gf_RX12_55 (fun _ _ _ _ => rfl) ⟨by decide, rfl⟩ rfl ?_
      refine sw_iload_n 100 dX12_film_99 rfl rfl rfl ?_
      refine sw_iload 102 dX12_film_100 rfl rfl ?_
      refine sw_iadd 103 dX12_film_102 rfl ?_
      rw [e3]
      refine sw_lald 104 dX12_film_103 rfl ⟨by decide, rfl⟩ (by assumption) ?_
      rw [zI_clampN (by omega), v15]
      refine sw_last 105 dX12_film_104 rfl ⟨by decide, rfl⟩ (by assumption) ?_
      refine sw_iinc (v := zI 1) (lc' := [(0, _), (1, _), (2, _), (3, _), (4, _)]) 108 dX12_film_105 rfl (by decide) rfl rfl rfl ?_
      refine sw_goto 51 dX12_film_108 (by decide) ?_
      rw [zI_clampN (by omega), wLI, zI_add]
      refine ih (k + 1) _ (by omega) (fun t ht => ?_) (fun i hi => ?_)
      · unfold va_up
        by_cases c1 : t = 2 * k + 1
        · rw [if_pos (by omega)]
          unfold tolR
          rw [if_neg (by omega), show m + t / 2 = m + k by omega]
        · rw [if_neg (by omega)]
          by_cases c2 : t = 2 * k
          · rw [if_pos (by omega)]
            unfold tolR
            rw [if_pos (by omega), show m + t / 2 = m + k by omega]
          · rw [if_neg (by omega)]; exact hF t (by omega)
      · unfold va_up
        rw [if_neg (by omega), if_neg (by omega)]
        exact hG i hi
theorem m_film (K : okS σ) (I : IM h σ) {j i : Int} (s1 : -2147483648 ≤ j) (s2 : j < 2147483648) (i1 : -2147483648 ≤ i) (i2 : i < 2147483648) : sw_ct wM X l (d + 4) mX12_film [.ref 0, .int (zI j), .int (zI i)] h (sw_qI wM X fun r h2 => IM h2 (opFilm (tabS σ) σ j i).2 ∧ r = zI (opFilm (tabS σ) σ j i).1) := by
  have hN := tabS_264 K
  refine sw_ct_of (by decide +kernel) (Nat.le_of_ble_eq_true rfl) rfl ?_
  refine sw_aload_n 1 dX12_film_0 rfl rfl rfl ?_
  refine sw_invVV 4 dX12_film_1 rfl lk_RX12_182 (m_layS K I) ⟨by decide, rfl⟩ rfl rfl (Nat.le_of_ble_eq_true rfl) (fun h1 hq1 => ?_)
  obtain ⟨I2, W⟩ := hq1
  refine sw_iload_n 5 dX12_film_4 rfl rfl rfl ?_
  refine sw_invSI 8 dX12_film_5 rfl lk_RX12_254 (m_isList s1 s2) rfl rfl (Nat.le_of_ble_eq_true rfl) (fun r5 h5 hq5 => ?_)
  obtain ⟨rfl, rfl⟩ := hq5
  refine sw_if_eq 25 11 dX12_film_8 (by decide) rfl (fun c8 => ?_) (fun c8 => ?_)
  · refine sw_iconst (v := zI (-1)) 26 dX12_film_25 rfl (by decide) ?_
    exact sw_iret dX12_film_26 rfl (by
  rw [ifz_eq] at c8
  unfold opFilm; rw [if_neg (fun hh => c8 hh.1)]; exact ⟨I2, rfl⟩)
  · rw [ifz_eq, Decidable.not_not] at c8
    refine sw_iload_n 12 dX12_film_11 rfl rfl rfl ?_
    refine sw_iconst (v := zI 0) 13 dX12_film_12 rfl (by decide) ?_
    refine sw_aload_n 14 dX12_film_13 rfl rfl rfl ?_
    refine sw_getI 17 dX12_film_14 rfl gf_RX12_167 rfl ⟨by decide, rfl⟩ ?_
    rw [W.1]
    refine sw_iconst (v := zI 1) 18 dX12_film_17 rfl (by decide) ?_
    refine sw_isub 19 dX12_film_18 rfl ?_
    rw [zI_sub]
    refine sw_invSI 22 dX12_film_19 rfl lk_RX12_87 (c_in i1 i2 (by decide) (by decide) (by omega) (by omega)) rfl rfl (Nat.le_of_ble_eq_true rfl) (fun r19 h19 hq19 => ?_)
    obtain ⟨rfl, rfl⟩ := hq19
    refine sw_if_ne 27 25 dX12_film_22 (by decide) rfl (fun c22 => ?_) (fun c22 => ?_)
    · rw [ifz_eq, Decidable.not_not] at c22
      obtain ⟨a, rfl⟩ := Int.eq_ofNat_of_zero_le c8.1
      obtain ⟨m, rfl⟩ := Int.eq_ofNat_of_zero_le c22.1
      have ha : a < 3 := by omega
      have hm : m < (tabS σ).1 := by omega
      have hin := zI_inN (a := a) (n := 3) (by omega) (by decide)
      refine sw_bipush (v := zI 10) 29 dX12_film_27 rfl (by decide) ?_
      refine sw_aload_n 30 dX12_film_29 rfl rfl rfl ?_
      refine sw_getI 33 dX12_film_30 rfl gf_RX12_167 rfl ⟨by decide, rfl⟩ ?_
      rw [W.1]
      refine sw_iload_n 34 dX12_film_33 rfl rfl rfl ?_
      refine sw_isub 35 dX12_film_34 rfl ?_
      rw [zI_sub]
      refine sw_invSI 38 dX12_film_35 rfl lk_RX12_123 (c_minZ (by omega) (by omega) (by omega) (by omega)) rfl rfl (Nat.le_of_ble_eq_true rfl) (fun r35 h35 hq35 => ?_)
      obtain ⟨rfl, rfl⟩ := hq35
      refine sw_istore_n (lc' := [(0, _), (1, _), (2, _), (3, _)]) 39 dX12_film_38 rfl rfl (by decide) rfl ?_
      refine sw_aload_n 40 dX12_film_39 rfl rfl rfl ?_
      refine sw_getR (b := 7) 43 dX12_film_40 rfl gf_RX12_30 (fun _ _ _ _ => rfl) ⟨by decide, rfl⟩ rfl ?_
      refine sw_iload_n 44 dX12_film_43 rfl rfl rfl ?_
      refine sw_iconst (v := zI 2) 45 dX12_film_44 rfl (by decide) ?_
      refine sw_iload_n 46 dX12_film_45 rfl rfl rfl ?_
      refine sw_imul 47 dX12_film_46 rfl ?_
      refine sw_iast 48 dX12_film_47 rfl ⟨by decide, rfl⟩ (by assumption) ?_
      refine sw_iconst (v := zI 0) 49 dX12_film_48 rfl (by decide) ?_
      refine sw_istore (lc' := [(0, _), (1, _), (2, _), (3, _), (4, _)]) 51 dX12_film_49 rfl (by decide) rfl ?_
      obtain ⟨L, hL⟩ := Int.eq_ofNat_of_zero_le (show 0 ≤ min 10 (((tabS σ).1 : Int) - (m : Int)) by omega)
      have g9 := film_loopM (X := X) (l := l) (d := d) K I2 W ha hm hL L 0 (_ : Nat → Int64) (by omega) (fun t ht => absurd ht (by omega)) (fun i _ => rfl)
      rw [sw_pL_self rfl] at g9
      unfold opFilm
      rw [if_pos ⟨c8, by omega⟩]
      simp only [Int.toNat_natCast]
      rw [zI_clampN (by omega), zI_mul]
      rw [← hL] at g9
      exact g9
    · refine sw_iconst (v := zI (-1)) 26 dX12_film_25 rfl (by decide) ?_
      exact sw_iret dX12_film_26 rfl (by
  rw [ifz_eq] at c22
  unfold opFilm; rw [if_neg (fun hh => c22 (by omega))]; exact ⟨I2, rfl⟩)
theorem m_judge (K : okS σ) (I : IM h σ) {j i : Int} (s1 : -2147483648 ≤ j) (s2 : j < 2147483648) (i1 : -2147483648 ≤ i) (i2 : i < 2147483648) : sw_ct wM X l (d + 4) mX12_judge [.ref 0, .int (zI j), .int (zI i)] h (sw_qI wM X fun r h2 => IM h2 σ ∧ r = zI (opJudge (tabS σ) σ j i)) := by
  have hN := tabS_264 K
  have loop : ∀ (a m : Nat) (g : sw_H) (R : Int), a < 3 → (m : Int) < 2147483648 → IM g σ → tbM g σ.1.1.1 σ.1.1.2.1 (tabS σ) → 0 ≤ σ.2.2.2.1 a → ∀ (c k : Nat), (k : Int) + c = σ.2.2.2.1 a → jdgZ (tabS σ) (σ.2.2.2.2 a) m (100 + σ.2.2.2.1 a) c k = R → sw_wp wM X l (d + 4) mX12_judge (sw_qI wM X fun r h2 => IM h2 σ ∧ r = zI R) 31 [(0, .ref 0), (1, .int (zI a)), (2, .int (zI m)), (3, .int (zI k))] [] g := by
    intro a m g R ha hm Ig W hz0 c
    have kz := K.2.2.2 a ha
    have hz := Ig.2.2.2.2.2 a ha
    have hin1 := zI_inN (a := a) (n := 3) ha (by decide)
    have h2z : ¬ zI 2 = 0 := by decide
    induction c with
    | zero =>
      intro k hk hR
      have : (k : Int) = σ.2.2.2.1 a := by omega
      refine sw_iload_n 32 dX12_judge_31 rfl rfl rfl ?_
      refine sw_aload_n 33 dX12_judge_32 rfl rfl rfl ?_
      refine sw_getR (b := 7) 36 dX12_judge_33 rfl gf_RX12_30 (fun _ _ _ _ => rfl) ⟨by decide, rfl⟩ rfl ?_
      refine sw_iload_n 37 dX12_judge_36 rfl rfl rfl ?_
      refine sw_iald 38 dX12_judge_37 rfl ⟨by decide, rfl⟩ (by assumption) ?_
      rw [zI_clampN (by omega), hz.1]
      refine sw_icmp_ge 105 41 dX12_judge_38 (by decide) rfl (fun c38 => ?_) (fun c38 => ?_)
      · refine sw_bipush (v := zI 100) 107 dX12_judge_105 rfl (by decide) ?_
        refine sw_aload_n 108 dX12_judge_107 rfl rfl rfl ?_
        refine sw_getR (b := 7) 111 dX12_judge_108 rfl gf_RX12_30 (fun _ _ _ _ => rfl) ⟨by decide, rfl⟩ rfl ?_
        refine sw_iload_n 112 dX12_judge_111 rfl rfl rfl ?_
        refine sw_iald 113 dX12_judge_112 rfl ⟨by decide, rfl⟩ (by assumption) ?_
        rw [zI_clampN (by omega), hz.1]
        refine sw_iadd 114 dX12_judge_113 rfl ?_
        exact sw_iret dX12_judge_114 rfl (⟨Ig, by rw [← hR, zI_add]; rfl⟩)
      · exact absurd (by rw [this]; exact Int32.le_refl _) c38
    | succ c ih =>
      intro k hk hR
      have le : jdgZ (tabS σ) (σ.2.2.2.2 a) m (100 + σ.2.2.2.1 a) (c + 1) k = if (tabS σ).1 ≤ m + k / 2 ∨ ¬ σ.2.2.2.2 a k = tolR (tabS σ) m k then (k : Int) else jdgZ (tabS σ) (σ.2.2.2.2 a) m (100 + σ.2.2.2.1 a) c (k + 1) := rfl
      have e1 : zI k / zI 2 = zI ((k / 2 : Nat) : Int) := by rw [zI_div (by omega) (by omega) (by omega) (by omega)]; congr 1
      have e3 : zI k - zI k / zI 2 * zI 2 = zI ((k % 2 : Nat) : Int) := by rw [zI_rem (by omega) (by omega) (by omega) (by omega)]; congr 1
      have e4 : zI 20 * zI a + zI k = zI ((20 * a + k : Nat) : Int) := by rw [zI_mul, zI_add]; rfl
      have hin2 := zI_inN (a := 20 * a + k) (n := 60) (by omega) (by decide)
      have v1 := hz.2 k (by omega)
      have fin : ∀ V9 : Int64, m + k / 2 < (tabS σ).1 → V9 = tolR (tabS σ) m k → sw_wp wM X l (d + 4) mX12_judge (sw_qI wM X fun r h2 => IM h2 σ ∧ r = zI R) 93 [(0, .ref 0), (1, .int (zI a)), (2, .int (zI m)), (3, .int (zI k))] [.long V9, .long (σ.2.2.2.2 a k)] g := by
        intro V9 h1 h2
        subst h2
        refine sw_lcmp 94 dX12_judge_93 rfl ?_
        refine sw_if_eq 99 97 dX12_judge_94 (by decide) rfl (fun c94 => ?_) (fun c94 => ?_)
        · rw [lc_eq] at c94
          refine sw_iinc (v := zI 1) (lc' := [(0, _), (1, _), (2, _), (3, _)]) 102 dX12_judge_99 rfl (by decide) rfl rfl rfl ?_
          refine sw_goto 31 dX12_judge_102 (by decide) ?_
          rw [zI_add]
          exact ih (k + 1) (by omega) (by rw [← hR, le, if_neg (fun hh => by rcases hh with hh | hh; (omega); (exact hh c94))])
        · rw [lc_eq] at c94
          refine sw_iload_n 98 dX12_judge_97 rfl rfl rfl ?_
          exact sw_iret dX12_judge_98 rfl (⟨Ig, by rw [← hR, le, if_pos (Or.inr c94)]⟩)
      refine sw_iload_n 32 dX12_judge_31 rfl rfl rfl ?_
      refine sw_aload_n 33 dX12_judge_32 rfl rfl rfl ?_
      refine sw_getR (b := 7) 36 dX12_judge_33 rfl gf_RX12_30 (fun _ _ _ _ => rfl) ⟨by decide, rfl⟩ rfl ?_
      refine sw_iload_n 37 dX12_judge_36 rfl rfl rfl ?_
      refine sw_iald 38 dX12_judge_37 rfl ⟨by decide, rfl⟩ (by assumption) ?_
      rw [zI_clampN (by omega), hz.1]
      refine sw_icmp_ge 105 41 dX12_judge_38 (by decide) rfl (fun c38 => ?_) (fun c38 => ?_)
      · exact absurd c38 (by rw [zI_le (by omega) (by omega) (by omega) (by omega)]; omega)
      · refine sw_iload_n 42 dX12_judge_41 rfl rfl rfl ?_
        refine sw_aload_n 43 dX12_judge_42 rfl rfl rfl ?_
        refine sw_getI 46 dX12_judge_43 rfl gf_RX12_167 rfl ⟨by decide, rfl⟩ ?_
        rw [W.1]
        refine sw_iload_n 47 dX12_judge_46 rfl rfl rfl ?_
        refine sw_iconst (v := zI 2) 48 dX12_judge_47 rfl (by decide) ?_
        refine sw_idiv 49 dX12_judge_48 rfl (by first | assumption | decide) ?_
        rw [e1]
        refine sw_isub 50 dX12_judge_49 rfl ?_
        rw [zI_sub]
        refine sw_icmp_ge 97 53 dX12_judge_50 (by decide) rfl (fun c50 => ?_) (fun c50 => ?_)
        · refine sw_iload_n 98 dX12_judge_97 rfl rfl rfl ?_
          exact sw_iret dX12_judge_98 rfl (⟨Ig, by
  rw [zI_le (by omega) (by omega) (by omega) (by omega)] at c50
  rw [← hR, le, if_pos (Or.inl (by omega))]⟩)
        · rw [zI_le (by omega) (by omega) (by omega) (by omega)] at c50
          have e5 : zI m + zI ((k / 2 : Nat) : Int) = zI ((m + k / 2 : Nat) : Int) := by rw [zI_add]; rfl
          have row := W.2.2 (m + k / 2) (by omega)
          have hin3 := zI_inN (a := m + k / 2) (n := 800) (by omega) (by decide)
          refine sw_aload_n 54 dX12_judge_53 rfl rfl rfl ?_
          refine sw_getR (b := 8) 57 dX12_judge_54 rfl gf_RX12_33 (fun _ _ _ _ => rfl) ⟨by decide, rfl⟩ rfl ?_
          refine sw_bipush (v := zI 20) 59 dX12_judge_57 rfl (by decide) ?_
          refine sw_iload_n 60 dX12_judge_59 rfl rfl rfl ?_
          refine sw_imul 61 dX12_judge_60 rfl ?_
          refine sw_iload_n 62 dX12_judge_61 rfl rfl rfl ?_
          refine sw_iadd 63 dX12_judge_62 rfl ?_
          rw [e4]
          refine sw_lald 64 dX12_judge_63 rfl ⟨by decide, rfl⟩ (by assumption) ?_
          rw [zI_clampN (by omega), v1]
          refine sw_iload_n 65 dX12_judge_64 rfl rfl rfl ?_
          refine sw_iconst (v := zI 2) 66 dX12_judge_65 rfl (by decide) ?_
          refine sw_irem 67 dX12_judge_66 rfl (by first | assumption | decide) ?_
          rw [e3]
          refine sw_if_ne 83 70 dX12_judge_67 (by decide) rfl (fun c67 => ?_) (fun c67 => ?_)
          · rw [z0, zI_eq (by omega) (by omega) (by omega) (by omega)] at c67
            refine sw_aload_n 84 dX12_judge_83 rfl rfl rfl ?_
            refine sw_getR (b := 15) 87 dX12_judge_84 rfl gf_RX12_55 (fun _ _ _ _ => rfl) ⟨by decide, rfl⟩ rfl ?_
            refine sw_iload_n 88 dX12_judge_87 rfl rfl rfl ?_
            refine sw_iload_n 89 dX12_judge_88 rfl rfl rfl ?_
            refine sw_iconst (v := zI 2) 90 dX12_judge_89 rfl (by decide) ?_
            refine sw_idiv 91 dX12_judge_90 rfl (by first | assumption | decide) ?_
            rw [e1]
            refine sw_iadd 92 dX12_judge_91 rfl ?_
            rw [e5]
            refine sw_lald 93 dX12_judge_92 rfl ⟨by decide, rfl⟩ (by assumption) ?_
            rw [zI_clampN (by omega), row.2.1]
            exact fin _ (by omega) (by unfold tolR; rw [if_neg (by omega)])
          · rw [z0, zI_eq (by omega) (by omega) (by omega) (by omega)] at c67
            refine sw_aload_n 71 dX12_judge_70 rfl rfl rfl ?_
            refine sw_getR (b := 14) 74 dX12_judge_71 rfl gf_RX12_52 (fun _ _ _ _ => rfl) ⟨by decide, rfl⟩ rfl ?_
            refine sw_iload_n 75 dX12_judge_74 rfl rfl rfl ?_
            refine sw_iload_n 76 dX12_judge_75 rfl rfl rfl ?_
            refine sw_iconst (v := zI 2) 77 dX12_judge_76 rfl (by decide) ?_
            refine sw_idiv 78 dX12_judge_77 rfl (by first | assumption | decide) ?_
            rw [e1]
            refine sw_iadd 79 dX12_judge_78 rfl ?_
            rw [e5]
            refine sw_lald 80 dX12_judge_79 rfl ⟨by decide, rfl⟩ (by assumption) ?_
            refine sw_goto 93 dX12_judge_80 (by decide) ?_
            rw [zI_clampN (by omega), row.1]
            exact fin _ (by omega) (by unfold tolR; rw [if_pos (by omega)])
  refine sw_ct_of (by decide +kernel) (Nat.le_of_ble_eq_true rfl) rfl ?_
  refine sw_iload_n 1 dX12_judge_0 rfl rfl rfl ?_
  refine sw_invSI 4 dX12_judge_1 rfl lk_RX12_254 (m_isList s1 s2) rfl rfl (Nat.le_of_ble_eq_true rfl) (fun r1 h1 hq1 => ?_)
  obtain ⟨rfl, rfl⟩ := hq1
  refine sw_if_eq 11 7 dX12_judge_4 (by decide) rfl (fun c4 => ?_) (fun c4 => ?_)
  · refine sw_iconst (v := zI (-1)) 12 dX12_judge_11 rfl (by decide) ?_
    exact sw_iret dX12_judge_12 rfl (by
  rw [ifz_eq] at c4
  unfold opJudge; rw [if_neg (fun hh => c4 hh.1)]; exact ⟨I, rfl⟩)
  · rw [ifz_eq, Decidable.not_not] at c4
    refine sw_iload_n 8 dX12_judge_7 rfl rfl rfl ?_
    refine sw_if_ge 13 11 dX12_judge_8 (by decide) rfl (fun c8 => ?_) (fun c8 => ?_)
    · rw [z0, zI_le (by omega) (by omega) (by omega) (by omega)] at c8
      obtain ⟨a, rfl⟩ := Int.eq_ofNat_of_zero_le c4.1
      obtain ⟨m, rfl⟩ := Int.eq_ofNat_of_zero_le c8
      have ha : a < 3 := by omega
      have hin1 := zI_inN (a := a) (n := 3) ha (by decide)
      have hz := I.2.2.2.2.2 a ha
      have kz := K.2.2.2 a ha
      refine sw_aload_n 14 dX12_judge_13 rfl rfl rfl ?_
      refine sw_getR (b := 7) 17 dX12_judge_14 rfl gf_RX12_30 (fun _ _ _ _ => rfl) ⟨by decide, rfl⟩ rfl ?_
      refine sw_iload_n 18 dX12_judge_17 rfl rfl rfl ?_
      refine sw_iald 19 dX12_judge_18 rfl ⟨by decide, rfl⟩ (by assumption) ?_
      rw [zI_clampN (by omega), hz.1]
      refine sw_if_ge 25 22 dX12_judge_19 (by decide) rfl (fun c19 => ?_) (fun c19 => ?_)
      · rw [z0, zI_le (by omega) (by omega) (by omega) (by omega)] at c19
        refine sw_aload_n 26 dX12_judge_25 rfl rfl rfl ?_
        refine sw_invVV 29 dX12_judge_26 rfl lk_RX12_182 (m_layS K I) ⟨by decide, rfl⟩ rfl rfl (Nat.le_of_ble_eq_true rfl) (fun h26 hq26 => ?_)
        obtain ⟨I2, W⟩ := hq26
        refine sw_iconst (v := zI 0) 30 dX12_judge_29 rfl (by decide) ?_
        refine sw_istore_n (lc' := [(0, _), (1, _), (2, _), (3, _)]) 31 dX12_judge_30 rfl rfl (by decide) rfl ?_
        unfold opJudge; rw [if_pos ⟨c4, c8⟩]; simp only [Int.toNat_natCast]; rw [if_neg (by omega)]
        exact loop a m _ _ ha i2 I2 W (by omega) _ 0 (by omega) rfl
      · rw [z0, zI_le (by omega) (by omega) (by omega) (by omega)] at c19
        refine sw_bipush (v := zI (-11)) 24 dX12_judge_22 rfl (by decide) ?_
        exact sw_iret dX12_judge_24 rfl (by
  unfold opJudge; rw [if_pos ⟨c4, c8⟩]; simp only [Int.toNat_natCast]; rw [if_pos (by omega)]; exact ⟨I, rfl⟩)
    · refine sw_iconst (v := zI (-1)) 12 dX12_judge_11 rfl (by decide) ?_
      exact sw_iret dX12_judge_12 rfl (by
  rw [z0, zI_le (by omega) (by omega) (by omega) (by omega)] at c8
  unfold opJudge; rw [if_neg (fun hh => c8 hh.2)]; exact ⟨I, rfl⟩)
end sw_m15
