/-! THE REFERENCE, 12: the units of the box, one after the other; answers told apart -/
section sw_m12
variable {X : sw_X} {l : Launch} {d : Nat} {h : sw_H} {σ : SgZ} {n : Nat} {p bx : Nat → Int}
theorem m_looksFirst (V : imB h n p bx) (hn : n ≤ 4) (hb : ∀ i, i < n → 0 ≤ bx i ∧ bx i ≤ 4) : sw_ct wM X l d mX12_looksFirst [.ref 0] h (sw_qV wM X fun h2 => frM [9] [14] h h2 ∧ rwM h2 9 n (dgE bx 0) ∧ h2.1 0 14 = zI (sgU 0)) := by
  refine sw_ct_of (by decide +kernel) (Nat.le_of_ble_eq_true rfl) rfl ?_
  generalize hQ : (sw_qV wM X fun h2 => frM [9] [14] h h2 ∧ rwM h2 9 n (dgE bx 0) ∧ h2.1 0 14 = zI (sgU 0)) = Qc
  have loop : ∀ (c j : Nat) (F : Nat → Int32), j + c = n → (∀ i, i < j → F i = zI (dgE bx 0 i)) → sw_wp wM X l d mX12_looksFirst Qc 2 [(0, .ref 0), (1, .int (zI j))] [] (sw_pI h 9 F) := by
    intro c
    have e0 : ∀ F, (sw_pI h 9 F).1 0 0 = zI n := fun F => by rw [sw_pI_ne (by decide)]; exact V.1
    induction c with
    | zero =>
      intro j F hj hF
      have : j = n := by omega
      subst this
      subst hQ
      refine sw_iload_n 3 dX12_looksFirst_2 rfl rfl rfl ?_
      refine sw_aload_n 4 dX12_looksFirst_3 rfl rfl rfl ?_
      refine sw_getI 7 dX12_looksFirst_4 rfl gf_RX12_83 rfl ⟨by decide, rfl⟩ ?_
      rw [e0]
      refine sw_icmp_ge 29 10 dX12_looksFirst_7 (by decide) rfl (fun c7 => ?_) (fun c7 => ?_)
      · refine sw_aload_n 30 dX12_looksFirst_29 rfl rfl rfl ?_
        refine sw_iconst (v := zI 1) 31 dX12_looksFirst_30 rfl (by decide) ?_
        refine sw_putI 34 dX12_looksFirst_31 rfl pf_RX12_109 rfl ⟨by decide, rfl⟩ ?_
        exact sw_vret dX12_looksFirst_34 rfl (⟨frM_tr (frM_pI (by decide) (by decide)) (frM_w0 (by decide)), fun i hi => by rw [sw_wI_ne (by decide), sw_pI_at]; exact hF i hi, by rw [sw_wI_at]; simp [va_up, sgU]⟩)
      · exact absurd (Int32.le_refl _) c7
    | succ c ih =>
      intro j F hj hF
      have hin1 := zI_inN (a := j) (n := 5) (by omega) (by decide)
      have hin2 := zI_inN (a := j) (n := 4) (by omega) (by decide)
      have e3 : (sw_pI h 9 F).1 2 j = zI (bx j) := by rw [sw_pI_ne (by decide)]; exact (V.2 j (by omega)).2
      refine sw_iload_n 3 dX12_looksFirst_2 rfl rfl rfl ?_
      refine sw_aload_n 4 dX12_looksFirst_3 rfl rfl rfl ?_
      refine sw_getI 7 dX12_looksFirst_4 rfl gf_RX12_83 rfl ⟨by decide, rfl⟩ ?_
      rw [e0]
      refine sw_icmp_ge 29 10 dX12_looksFirst_7 (by decide) rfl (fun c7 => ?_) (fun c7 => ?_)
      · exact absurd c7 (by rw [zI_le (by omega) (by omega) (by omega) (by omega)]; omega)
      · refine sw_aload_n 11 dX12_looksFirst_10 rfl rfl rfl ?_
        refine sw_getR (b := 9) 14 dX12_looksFirst_11 rfl gf_RX12_37 (fun _ _ _ _ => rfl) ⟨by decide, rfl⟩ rfl ?_
        refine sw_iload_n 15 dX12_looksFirst_14 rfl rfl rfl ?_
        refine sw_aload_n 16 dX12_looksFirst_15 rfl rfl rfl ?_
        refine sw_getR (b := 2) 19 dX12_looksFirst_16 rfl gf_RX12_15 (fun _ _ _ _ => rfl) ⟨by decide, rfl⟩ rfl ?_
        refine sw_iload_n 20 dX12_looksFirst_19 rfl rfl rfl ?_
        refine sw_iald 21 dX12_looksFirst_20 rfl ⟨by decide, rfl⟩ (by assumption) ?_
        refine sw_ineg 22 dX12_looksFirst_21 rfl ?_
        refine sw_iast 23 dX12_looksFirst_22 rfl ⟨by decide, rfl⟩ (by assumption) ?_
        refine sw_iinc (v := zI 1) (lc' := [(0, _), (1, _)]) 26 dX12_looksFirst_23 rfl (by decide) rfl rfl rfl ?_
        refine sw_goto 2 dX12_looksFirst_26 (by decide) ?_
        rw [zI_clampN (by omega), e3, zI_neg, sw_wI_pI, zI_add]
        refine ih (j + 1) _ (by omega) (fun i hi => ?_)
        unfold va_up
        by_cases c : i = j
        · rw [if_pos c, c, dg_first]
        · rw [if_neg c]; exact hF i (by omega)
  refine sw_iconst (v := zI 0) 1 dX12_looksFirst_0 rfl (by decide) ?_
  refine sw_istore_n (lc' := [(0, _), (1, _)]) 2 dX12_looksFirst_1 rfl rfl (by decide) rfl ?_
  have g := loop n 0 (h.1 9) (by omega) (fun i hi => absurd hi (Nat.not_lt_zero i))
  rw [sw_pI_self rfl] at g
  exact g
theorem m_looksOn (V : imB h n p bx) (hn : n ≤ 4) (hb : ∀ i, i < n → 0 ≤ bx i ∧ bx i ≤ 4) {u : Nat} (hu : u < 2 * rdx bx n) (R : rwM h 9 n (dgE bx (u / 2))) (S : h.1 0 14 = zI (sgU u)) : sw_ct wM X l d mX12_looksOn [.ref 0] h (sw_qI wM X fun r h2 => frM [9] [14] h h2 ∧ r = bI (decide (u + 1 < 2 * rdx bx n)) ∧ rwM h2 9 n (dgE bx ((u + 1) / 2)) ∧ h2.1 0 14 = zI (sgU (u + 1))) := by
  have hb0 : ∀ i, i < n → 0 ≤ bx i := fun i hi => (hb i hi).1
  refine sw_ct_of (by decide +kernel) (Nat.le_of_ble_eq_true rfl) rfl ?_
  generalize hQ : (sw_qI wM X fun r h2 => frM [9] [14] h h2 ∧ r = bI (decide (u + 1 < 2 * rdx bx n)) ∧ rwM h2 9 n (dgE bx ((u + 1) / 2)) ∧ h2.1 0 14 = zI (sgU (u + 1))) = Qc
  have loop : u % 2 = 1 → ∀ (c j : Nat) (F : Nat → Int32), j + c = n → (∀ i, i < j → dgE bx (u / 2) i = bx i) → (∀ i, i < n → F i = zI (if i < j then -bx i else dgE bx (u / 2) i)) → sw_wp wM X l d mX12_looksOn Qc 22 [(0, .ref 0), (1, .int (zI j))] [] (sw_pI (sw_wI h 0 14 (zI 1)) 9 F) := by
    intro od c
    have hv : u / 2 < rdx bx n := by omega
    have hv2 : (u + 1) / 2 = u / 2 + 1 := by omega
    have s1 : sgU (u + 1) = 1 := by unfold sgU; rw [if_pos (by omega)]
    have e0 : ∀ F, (sw_pI (sw_wI h 0 14 (zI 1)) 9 F).1 0 0 = zI n := fun F => by rw [sw_pI_ne (by decide), sw_wI_at]; simp only [va_up]; exact V.1
    have A : ∀ F, frM [9] [14] h (sw_pI (sw_wI h 0 14 (zI 1)) 9 F) := fun F => frM_tr (frM_w0 (by decide)) (frM_pI (by decide) (by decide))
    have sg : ∀ F, (sw_pI (sw_wI h 0 14 (zI 1)) 9 F).1 0 14 = zI (sgU (u + 1)) := fun F => by rw [sw_pI_ne (by decide), sw_wI_at, s1]; simp [va_up]
    induction c with
    | zero =>
      intro j F hj hM hF
      have : j = n := by omega
      subst this
      subst hQ
      have le := dg_last hb0 hv hM
      refine sw_iload_n 23 dX12_looksOn_22 rfl rfl rfl ?_
      refine sw_aload_n 24 dX12_looksOn_23 rfl rfl rfl ?_
      refine sw_getI 27 dX12_looksOn_24 rfl gf_RX12_83 rfl ⟨by decide, rfl⟩ ?_
      rw [e0]
      refine sw_icmp_ge 76 30 dX12_looksOn_27 (by decide) rfl (fun c27 => ?_) (fun c27 => ?_)
      · refine sw_iconst (v := zI 0) 77 dX12_looksOn_76 rfl (by decide) ?_
        exact sw_zret (by first | exact Or.inl rfl | exact Or.inr rfl | assumption) dX12_looksOn_77 rfl (⟨A F, by rw [decide_eq_false (by omega)]; rfl, fun i hi => by rw [sw_pI_at, hF i hi, if_pos hi, hv2, le, dg_end hb0 hi], sg F⟩)
      · exact absurd (Int32.le_refl _) c27
    | succ c ih =>
      intro j F hj hM hF
      have hin1 := zI_inN (a := j) (n := 5) (by omega) (by decide)
      have hin2 := zI_inN (a := j) (n := 4) (by omega) (by decide)
      have bj := hb j (by omega)
      have dj := dg_b bj.1 (u / 2)
      have e3 : (sw_pI (sw_wI h 0 14 (zI 1)) 9 F).1 2 j = zI (bx j) := by rw [sw_pI_ne (by decide), sw_wI_ne (by decide)]; exact (V.2 j (by omega)).2
      have e9 : (sw_pI (sw_wI h 0 14 (zI 1)) 9 F).1 9 j = zI (dgE bx (u / 2) j) := by rw [sw_pI_at, hF j (by omega), if_neg (by omega)]
      refine sw_iload_n 23 dX12_looksOn_22 rfl rfl rfl ?_
      refine sw_aload_n 24 dX12_looksOn_23 rfl rfl rfl ?_
      refine sw_getI 27 dX12_looksOn_24 rfl gf_RX12_83 rfl ⟨by decide, rfl⟩ ?_
      rw [e0]
      refine sw_icmp_ge 76 30 dX12_looksOn_27 (by decide) rfl (fun c27 => ?_) (fun c27 => ?_)
      · exact absurd c27 (by rw [zI_le (by omega) (by omega) (by omega) (by omega)]; omega)
      · refine sw_aload_n 31 dX12_looksOn_30 rfl rfl rfl ?_
        refine sw_getR (b := 9) 34 dX12_looksOn_31 rfl gf_RX12_37 (fun _ _ _ _ => rfl) ⟨by decide, rfl⟩ rfl ?_
        refine sw_iload_n 35 dX12_looksOn_34 rfl rfl rfl ?_
        refine sw_iald 36 dX12_looksOn_35 rfl ⟨by decide, rfl⟩ (by assumption) ?_
        refine sw_aload_n 37 dX12_looksOn_36 rfl rfl rfl ?_
        refine sw_getR (b := 2) 40 dX12_looksOn_37 rfl gf_RX12_15 (fun _ _ _ _ => rfl) ⟨by decide, rfl⟩ rfl ?_
        refine sw_iload_n 41 dX12_looksOn_40 rfl rfl rfl ?_
        refine sw_iald 42 dX12_looksOn_41 rfl ⟨by decide, rfl⟩ (by assumption) ?_
        rw [zI_clampN (by omega), e3, e9]
        refine sw_icmp_ge 57 45 dX12_looksOn_42 (by decide) rfl (fun c42 => ?_) (fun c42 => ?_)
        · rw [zI_le (by omega) (by omega) (by omega) (by omega)] at c42
          refine sw_aload_n 58 dX12_looksOn_57 rfl rfl rfl ?_
          refine sw_getR (b := 9) 61 dX12_looksOn_58 rfl gf_RX12_37 (fun _ _ _ _ => rfl) ⟨by decide, rfl⟩ rfl ?_
          refine sw_iload_n 62 dX12_looksOn_61 rfl rfl rfl ?_
          refine sw_aload_n 63 dX12_looksOn_62 rfl rfl rfl ?_
          refine sw_getR (b := 2) 66 dX12_looksOn_63 rfl gf_RX12_15 (fun _ _ _ _ => rfl) ⟨by decide, rfl⟩ rfl ?_
          refine sw_iload_n 67 dX12_looksOn_66 rfl rfl rfl ?_
          refine sw_iald 68 dX12_looksOn_67 rfl ⟨by decide, rfl⟩ (by assumption) ?_
          refine sw_ineg 69 dX12_looksOn_68 rfl ?_
          refine sw_iast 70 dX12_looksOn_69 rfl ⟨by decide, rfl⟩ (by assumption) ?_
          refine sw_iinc (v := zI 1) (lc' := [(0, _), (1, _)]) 73 dX12_looksOn_70 rfl (by decide) rfl rfl rfl ?_
          refine sw_goto 22 dX12_looksOn_73 (by decide) ?_
          rw [zI_clampN (by omega), e3, zI_neg, sw_wI_pI, zI_add]
          refine ih (j + 1) _ (by omega) (fun i hi => ?_) (fun i hi => ?_)
          · by_cases c : i = j
            · rw [c]; omega
            · exact hM i (by omega)
          · unfold va_up
            by_cases c : i = j
            · rw [if_pos c, if_pos (by omega), c]
            · rw [if_neg c, hF i hi]
              by_cases c2 : i < j
              · rw [if_pos c2, if_pos (by omega)]
              · rw [if_neg c2, if_neg (by omega)]
        · rw [zI_le (by omega) (by omega) (by omega) (by omega)] at c42
          subst hQ
          refine sw_aload_n 46 dX12_looksOn_45 rfl rfl rfl ?_
          refine sw_getR (b := 9) 49 dX12_looksOn_46 rfl gf_RX12_37 (fun _ _ _ _ => rfl) ⟨by decide, rfl⟩ rfl ?_
          refine sw_iload_n 50 dX12_looksOn_49 rfl rfl rfl ?_
          refine sw_dup2 51 dX12_looksOn_50 rfl rfl rfl ?_
          refine sw_iald 52 dX12_looksOn_51 rfl ⟨by decide, rfl⟩ (by assumption) ?_
          refine sw_iconst (v := zI 1) 53 dX12_looksOn_52 rfl (by decide) ?_
          rw [zI_clampN (by omega), e9]
          refine sw_iadd 54 dX12_looksOn_53 rfl ?_
          refine sw_iast 55 dX12_looksOn_54 rfl ⟨by decide, rfl⟩ (by assumption) ?_
          refine sw_iconst (v := zI 1) 56 dX12_looksOn_55 rfl (by decide) ?_
          exact sw_zret (by first | exact Or.inl rfl | exact Or.inr rfl | assumption) dX12_looksOn_56 rfl (by
  have st := dg_step hb0 (by omega : j < n) hM (by omega)
  rw [zI_clampN (by omega), zI_add, sw_wI_pI]
  refine ⟨A _, ?_, fun i hi => ?_, sg _⟩
  · rw [decide_eq_true]; rfl
    have := dg_not_last hb0 hv (by omega : j < n) (by omega)
    omega
  · rw [sw_pI_at, hv2]
    unfold va_up
    by_cases c : i = j
    · rw [if_pos c, c, st.2.1]
    · rw [if_neg c, hF i hi]
      by_cases c2 : i < j
      · rw [if_pos c2, st.1 i c2]
      · rw [if_neg c2, st.2.2 i (by omega) hi])
  refine sw_aload_n 1 dX12_looksOn_0 rfl rfl rfl ?_
  refine sw_getI 4 dX12_looksOn_1 rfl gf_RX12_109 rfl ⟨by decide, rfl⟩ ?_
  refine sw_iconst (v := zI 1) 5 dX12_looksOn_4 rfl (by decide) ?_
  rw [S]
  refine sw_icmp_ne 15 8 dX12_looksOn_5 (by decide) rfl (fun c5 => ?_) (fun c5 => ?_)
  · refine sw_aload_n 16 dX12_looksOn_15 rfl rfl rfl ?_
    refine sw_iconst (v := zI 1) 17 dX12_looksOn_16 rfl (by decide) ?_
    refine sw_putI 20 dX12_looksOn_17 rfl pf_RX12_109 rfl ⟨by decide, rfl⟩ ?_
    refine sw_iconst (v := zI 0) 21 dX12_looksOn_20 rfl (by decide) ?_
    refine sw_istore_n (lc' := [(0, _), (1, _)]) 22 dX12_looksOn_21 rfl rfl (by decide) rfl ?_
    have od : u % 2 = 1 := by
      unfold sgU at c5
      by_cases q : u % 2 = 0
      · rw [if_pos q] at c5; exact absurd rfl c5
      · omega
    have g := loop od n 0 ((sw_wI h 0 14 (zI 1)).1 9) (by omega) (fun i hi => absurd hi (Nat.not_lt_zero i)) (fun i hi => by rw [sw_wI_ne (by decide), if_neg (Nat.not_lt_zero i)]; exact R i hi)
    rw [sw_pI_self rfl] at g
    exact g
  · subst hQ
    have ev : u % 2 = 0 := by
      unfold sgU at c5
      by_cases q : u % 2 = 0
      · exact q
      · rw [if_neg q] at c5; exact absurd c5 (by decide)
    refine sw_aload_n 9 dX12_looksOn_8 rfl rfl rfl ?_
    refine sw_iconst (v := zI (-1)) 10 dX12_looksOn_9 rfl (by decide) ?_
    refine sw_putI 13 dX12_looksOn_10 rfl pf_RX12_109 rfl ⟨by decide, rfl⟩ ?_
    refine sw_iconst (v := zI 1) 14 dX12_looksOn_13 rfl (by decide) ?_
    exact sw_zret (by first | exact Or.inl rfl | exact Or.inr rfl | assumption) dX12_looksOn_14 rfl (by
  refine ⟨frM_w0 (by decide), ?_, fun i hi => ?_, ?_⟩
  · rw [decide_eq_true (by omega)]; rfl
  · rw [sw_wI_ne (by decide), show (u + 1) / 2 = u / 2 by omega]; exact R i hi
  · rw [sw_wI_at]; unfold sgU; rw [if_neg (by omega)]; simp [va_up])
theorem m_isAnswer {e : Nat → Int} {sg : Int} (V : imB h n p bx) (kB : okB n p bx) (R : rwM h 9 n e) (he : e6Z n e) (hS : h.1 0 14 = zI sg) (hs : sg = 1 ∨ sg = -1) : sw_ct wM X l (d + 2) mX12_isAnswer [.ref 0] h (sw_qI wM X fun r h2 => frM [10] [15] h h2 ∧ r = bI (ansB n p bx e sg)) := by
  have hn := kB.1
  have hb := kB.2.2.2.2
  have he100 : ∀ i, i < n → -100 ≤ e i ∧ e i ≤ 100 := fun i hi => by have := he i hi; omega
  have hm100 : ∀ i, i < n → -100 ≤ frU n p (bU n p e - aU n p e sg) (bU n p e) i ∧ frU n p (bU n p e - aU n p e sg) (bU n p e) i ≤ 100 := fun i hi => by have := frU_b n p (bU n p e - aU n p e sg) (bU n p e) i; omega
  refine sw_ct_of (by decide +kernel) (Nat.le_of_ble_eq_true rfl) rfl ?_
  refine sw_aload_n 1 dX12_isAnswer_0 rfl rfl rfl ?_
  refine sw_aload_n 2 dX12_isAnswer_1 rfl rfl rfl ?_
  refine sw_getR (b := 9) 5 dX12_isAnswer_2 rfl gf_RX12_37 (fun _ _ _ _ => rfl) ⟨by decide, rfl⟩ rfl ?_
  refine sw_invVI 8 dX12_isAnswer_5 rfl lk_RX12_148 (m_isInBox V hn hb r9 R he100) ⟨by decide, rfl⟩ rfl rfl (Nat.le_of_ble_eq_true rfl) (fun r5 h5 hq5 => ?_)
  obtain ⟨rfl, rfl⟩ := hq5
  refine sw_if_eq 33 11 dX12_isAnswer_8 (by decide) rfl (fun c8 => ?_) (fun c8 => ?_)
  · refine sw_iconst (v := zI 0) 34 dX12_isAnswer_33 rfl (by decide) ?_
    exact sw_zret (by first | exact Or.inl rfl | exact Or.inr rfl | assumption) dX12_isAnswer_34 rfl (by
  rw [bIz_eq] at c8
  exact ⟨frM_rf, by unfold ansB; rw [c8]; rfl⟩)
  · rw [bIz_eq, Bool.not_eq_false] at c8
    refine sw_aload_n 12 dX12_isAnswer_11 rfl rfl rfl ?_
    refine sw_invVI 15 dX12_isAnswer_12 rfl lk_RX12_160 (m_hasMate V kB R he hS hs) ⟨by decide, rfl⟩ rfl rfl (Nat.le_of_ble_eq_true rfl) (fun r12 h12 hq12 => ?_)
    obtain ⟨A, rfl, M⟩ := hq12
    refine sw_if_eq 33 18 dX12_isAnswer_15 (by decide) rfl (fun c15 => ?_) (fun c15 => ?_)
    · refine sw_iconst (v := zI 0) 34 dX12_isAnswer_33 rfl (by decide) ?_
      exact sw_zret (by first | exact Or.inl rfl | exact Or.inr rfl | assumption) dX12_isAnswer_34 rfl (by
  rw [bIz_eq] at c15
  exact ⟨A, by unfold ansB; rw [c8, c15]; rfl⟩)
    · rw [bIz_eq, Bool.not_eq_false] at c15
      obtain ⟨M1, M2⟩ := M c15
      refine sw_aload_n 19 dX12_isAnswer_18 rfl rfl rfl ?_
      refine sw_aload_n 20 dX12_isAnswer_19 rfl rfl rfl ?_
      refine sw_getR (b := 10) 23 dX12_isAnswer_20 rfl gf_RX12_40 (fun _ _ _ _ => rfl) ⟨by decide, rfl⟩ rfl ?_
      refine sw_invVI 26 dX12_isAnswer_23 rfl lk_RX12_148 (m_isInBox (imB_fr V A (by decide) (by decide) (by decide)) hn hb r10 M1 hm100) ⟨by decide, rfl⟩ rfl rfl (Nat.le_of_ble_eq_true rfl) (fun r23 h23 hq23 => ?_)
      obtain ⟨rfl, rfl⟩ := hq23
      refine sw_if_eq 33 29 dX12_isAnswer_26 (by decide) rfl (fun c26 => ?_) (fun c26 => ?_)
      · refine sw_iconst (v := zI 0) 34 dX12_isAnswer_33 rfl (by decide) ?_
        exact sw_zret (by first | exact Or.inl rfl | exact Or.inr rfl | assumption) dX12_isAnswer_34 rfl (by
  rw [bIz_eq] at c26
  exact ⟨A, by unfold ansB; rw [c8, c15, c26]; rfl⟩)
      · rw [bIz_eq, Bool.not_eq_false] at c26
        refine sw_iconst (v := zI 1) 30 dX12_isAnswer_29 rfl (by decide) ?_
        refine sw_goto 34 dX12_isAnswer_30 (by decide) ?_
        exact sw_zret (by first | exact Or.inl rfl | exact Or.inr rfl | assumption) dX12_isAnswer_34 rfl (⟨A, by unfold ansB; rw [c8, c15, c26]; rfl⟩)
end sw_m12
