/-! THE REFERENCE, 5: calls of units -/
section sw_m5
variable {X : sw_X} {l : Launch} {d : Nat} {h : sw_H} {σ : SgZ}
theorem e6 (K : okS σ) {s : Nat} (hs : s < 4) {i : Nat} (hi : i < σ.1.1.1) : -6 ≤ σ.1.2.1.2 s i ∧ σ.1.2.1.2 s i ≤ 6 := by
  have hn := K.1.1.1
  have := (K.1.2.1 s hs).2 i (by omega)
  exact ⟨this.1, this.2.1⟩
theorem m_put (K : okS σ) (I : IM h σ) {s i x : Int} (s1 : -2147483648 ≤ s) (s2 : s < 2147483648) (i1 : -2147483648 ≤ i) (i2 : i < 2147483648) (x1 : -2147483648 ≤ x) (x2 : x < 2147483648) : sw_ct wM X l (d + 2) mX12_put [.ref 0, .int (zI s), .int (zI i), .int (zI x)] h (sw_qI wM X fun r h2 => IM h2 (opPut σ s i x).2 ∧ r = zI (opPut σ s i x).1) := by
  have hn := K.1.1.1
  refine sw_ct_of (by decide +kernel) (Nat.le_of_ble_eq_true rfl) rfl ?_
  refine sw_iload_n 1 dX12_put_0 rfl rfl rfl ?_
  refine sw_invSI 4 dX12_put_1 rfl lk_RX12_132 (m_isShelf s1 s2) rfl rfl (Nat.le_of_ble_eq_true rfl) (fun r1 h1 hq1 => ?_)
  obtain ⟨rfl, rfl⟩ := hq1
  refine sw_if_eq 15 7 dX12_put_4 (by decide) rfl (fun c4 => ?_) (fun c4 => ?_)
  · refine sw_iconst (v := zI (-1)) 16 dX12_put_15 rfl (by decide) ?_
    exact sw_iret dX12_put_16 rfl (by
  rw [ifz_eq] at c4
  unfold opPut; rw [if_neg (fun hh => c4 hh.1)]; exact ⟨I, rfl⟩)
  · rw [ifz_eq, Decidable.not_not] at c4
    refine sw_aload_n 8 dX12_put_7 rfl rfl rfl ?_
    refine sw_iload_n 9 dX12_put_8 rfl rfl rfl ?_
    refine sw_invVI 12 dX12_put_9 rfl lk_RX12_106 (m_isPrime I.1.1 (by omega) i1 i2) ⟨by decide, rfl⟩ rfl rfl (Nat.le_of_ble_eq_true rfl) (fun r9 h9 hq9 => ?_)
    obtain ⟨rfl, rfl⟩ := hq9
    refine sw_if_ne 17 15 dX12_put_12 (by decide) rfl (fun c12 => ?_) (fun c12 => ?_)
    · rw [ifz_eq, Decidable.not_not] at c12
      obtain ⟨a, rfl⟩ := Int.eq_ofNat_of_zero_le c12.1
      obtain ⟨t, rfl⟩ := Int.eq_ofNat_of_zero_le c4.1
      have ht : t < 4 := by omega
      have e1 : zI 4 * zI t + zI a = zI ((4 * t + a : Nat) : Int) := by rw [zI_mul, zI_add]; rfl
      have hin := zI_inN (a := 4 * t + a) (n := 20) (by omega) (by decide)
      have e3 := (I.2.1 t ht).2 a (by omega)
      refine sw_iload_n 18 dX12_put_17 rfl rfl rfl ?_
      refine sw_bipush (v := zI (-6)) 20 dX12_put_18 rfl (by decide) ?_
      refine sw_bipush (v := zI 6) 22 dX12_put_20 rfl (by decide) ?_
      refine sw_invSI 25 dX12_put_22 rfl lk_RX12_87 (c_in x1 x2 (by decide) (by decide) (by decide) (by decide)) rfl rfl (Nat.le_of_ble_eq_true rfl) (fun r22 h22 hq22 => ?_)
      obtain ⟨rfl, rfl⟩ := hq22
      refine sw_if_ne 31 28 dX12_put_25 (by decide) rfl (fun c25 => ?_) (fun c25 => ?_)
      · rw [ifz_eq, Decidable.not_not] at c25
        refine sw_aload_n 32 dX12_put_31 rfl rfl rfl ?_
        refine sw_getR (b := 3) 35 dX12_put_32 rfl gf_RX12_18 (fun _ _ _ _ => rfl) ⟨by decide, rfl⟩ rfl ?_
        refine sw_iconst (v := zI 4) 36 dX12_put_35 rfl (by decide) ?_
        refine sw_iload_n 37 dX12_put_36 rfl rfl rfl ?_
        refine sw_imul 38 dX12_put_37 rfl ?_
        refine sw_iload_n 39 dX12_put_38 rfl rfl rfl ?_
        refine sw_iadd 40 dX12_put_39 rfl ?_
        rw [e1]
        refine sw_iald 41 dX12_put_40 rfl ⟨by decide, rfl⟩ (by assumption) ?_
        rw [zI_clampN (by omega), e3]
        refine sw_istore (lc' := [(0, _), (1, _), (2, _), (3, _), (4, _)]) 43 dX12_put_41 rfl (by decide) rfl ?_
        refine sw_aload_n 44 dX12_put_43 rfl rfl rfl ?_
        refine sw_getR (b := 3) 47 dX12_put_44 rfl gf_RX12_18 (fun _ _ _ _ => rfl) ⟨by decide, rfl⟩ rfl ?_
        refine sw_iconst (v := zI 4) 48 dX12_put_47 rfl (by decide) ?_
        refine sw_iload_n 49 dX12_put_48 rfl rfl rfl ?_
        refine sw_imul 50 dX12_put_49 rfl ?_
        refine sw_iload_n 51 dX12_put_50 rfl rfl rfl ?_
        refine sw_iadd 52 dX12_put_51 rfl ?_
        rw [e1]
        refine sw_iload_n 53 dX12_put_52 rfl rfl rfl ?_
        refine sw_iast 54 dX12_put_53 rfl ⟨by decide, rfl⟩ (by assumption) ?_
        refine sw_iload 56 dX12_put_54 rfl rfl ?_
        refine sw_bipush (v := zI 10) 58 dX12_put_56 rfl (by decide) ?_
        refine sw_iadd 59 dX12_put_58 rfl ?_
        exact sw_iret dX12_put_59 rfl (by
  unfold opPut; rw [if_pos ⟨c4, c12⟩, if_neg (by omega), zI_clampN (by omega), zI_add]
  simp only [Int.toNat_natCast]
  have A : frM [3] [] h22 (sw_wI h22 3 (4 * t + a) (zI x)) := frM_wI (by decide) (by decide)
  refine ⟨frM_I A I rfl (by decide) (by decide) (imB_fr I.1 A (by decide) (by decide) (by decide)) (fun u hu => ?_) ⟨by rw [A.2.2 5 (by decide)]; exact I.2.2.1.1, fun i hi => by rw [A.1 5 (by decide) (by decide)]; exact I.2.2.1.2 i hi⟩, by first | rfl | trivial⟩
  show _ = zI (va_up σ.1.2.1.1 t (σ.1.2.1.1 t) u) ∧ ∀ i, i < σ.1.1.1 → _ = zI (va_up σ.1.2.1.2 t (va_up (σ.1.2.1.2 t) a x) u i)
  rw [sw_wI_at, sw_wI_ne (by decide)]
  have iu := I.2.1 u hu
  unfold va_up
  by_cases c : u = t
  · rw [if_pos c, if_pos c]
    refine ⟨by rw [← c]; exact iu.1, fun i hi => ?_⟩
    by_cases c2 : i = a
    · rw [if_pos (by omega), if_pos c2]
    · rw [if_neg (by omega), if_neg c2, ← c]; exact iu.2 i hi
  · rw [if_neg c, if_neg c]
    exact ⟨iu.1, fun i hi => by rw [if_neg (by omega)]; exact iu.2 i hi⟩)
      · rw [ifz_eq] at c25
        refine sw_bipush (v := zI (-2)) 30 dX12_put_28 rfl (by decide) ?_
        exact sw_iret dX12_put_30 rfl (by unfold opPut; rw [if_pos ⟨c4, c12⟩, if_pos (by omega)]; exact ⟨I, rfl⟩)
    · refine sw_iconst (v := zI (-1)) 16 dX12_put_15 rfl (by decide) ?_
      exact sw_iret dX12_put_16 rfl (by
  rw [ifz_eq] at c12
  unfold opPut; rw [if_neg (fun hh => c12 hh.2)]; exact ⟨I, rfl⟩)
theorem m_sign (K : okS σ) (I : IM h σ) {s x : Int} (s1 : -2147483648 ≤ s) (s2 : s < 2147483648) (x1 : -2147483648 ≤ x) (x2 : x < 2147483648) : sw_ct wM X l (d + 2) mX12_sign [.ref 0, .int (zI s), .int (zI x)] h (sw_qI wM X fun r h2 => IM h2 (opSign σ s x).2 ∧ r = zI (opSign σ s x).1) := by
  refine sw_ct_of (by decide +kernel) (Nat.le_of_ble_eq_true rfl) rfl ?_
  refine sw_iload_n 1 dX12_sign_0 rfl rfl rfl ?_
  refine sw_invSI 4 dX12_sign_1 rfl lk_RX12_132 (m_isShelf s1 s2) rfl rfl (Nat.le_of_ble_eq_true rfl) (fun r1 h1 hq1 => ?_)
  obtain ⟨rfl, rfl⟩ := hq1
  refine sw_if_ne 9 7 dX12_sign_4 (by decide) rfl (fun c4 => ?_) (fun c4 => ?_)
  · rw [ifz_eq, Decidable.not_not] at c4
    obtain ⟨t, rfl⟩ := Int.eq_ofNat_of_zero_le c4.1
    have ht : t < 4 := by omega
    have hin2 := zI_inN (a := t) (n := 4) ht (by decide)
    have fin : (x = 1 ∨ x = -1) → IM (sw_wI h1 4 t (zI x)) (opSign σ (t : Nat) x).2 ∧ zI 1 = zI (opSign σ (t : Nat) x).1 := by
      intro hx
      unfold opSign; rw [if_pos c4, if_neg (by omega)]; simp only [Int.toNat_natCast]
      have A : frM [4] [] h1 (sw_wI h1 4 t (zI x)) := frM_wI (by decide) (by decide)
      refine ⟨frM_I A I rfl (by decide) (by decide) (imB_fr I.1 A (by decide) (by decide) (by decide)) (fun u hu => ?_) ⟨by rw [A.2.2 5 (by decide)]; exact I.2.2.1.1, fun i hi => by rw [A.1 5 (by decide) (by decide)]; exact I.2.2.1.2 i hi⟩, by first | rfl | trivial⟩
      show _ = zI (va_up σ.1.2.1.1 t x u) ∧ ∀ i, i < σ.1.1.1 → _ = zI (va_up σ.1.2.1.2 t (σ.1.2.1.2 t) u i)
      rw [sw_wI_at, sw_wI_ne (by decide)]
      have iu := I.2.1 u hu
      unfold va_up
      by_cases c : u = t
      · rw [if_pos c, if_pos c, if_pos c]
        exact ⟨rfl, by rw [← c]; exact iu.2⟩
      · rw [if_neg c, if_neg c, if_neg c]; exact iu
    refine sw_iload_n 10 dX12_sign_9 rfl rfl rfl ?_
    refine sw_iconst (v := zI 1) 11 dX12_sign_10 rfl (by decide) ?_
    refine sw_icmp_eq 22 14 dX12_sign_11 (by decide) rfl (fun c11 => ?_) (fun c11 => ?_)
    · refine sw_aload_n 23 dX12_sign_22 rfl rfl rfl ?_
      refine sw_getR (b := 4) 26 dX12_sign_23 rfl gf_RX12_21 (fun _ _ _ _ => rfl) ⟨by decide, rfl⟩ rfl ?_
      refine sw_iload_n 27 dX12_sign_26 rfl rfl rfl ?_
      refine sw_iload_n 28 dX12_sign_27 rfl rfl rfl ?_
      refine sw_iast 29 dX12_sign_28 rfl ⟨by decide, rfl⟩ (by assumption) ?_
      refine sw_iconst (v := zI 1) 30 dX12_sign_29 rfl (by decide) ?_
      exact sw_iret dX12_sign_30 rfl (by
  rw [zI_eq (by omega) (by omega) (by omega) (by omega)] at c11
  rw [zI_clampN (by omega)]; exact fin (Or.inl c11))
    · rw [zI_eq (by omega) (by omega) (by omega) (by omega)] at c11
      refine sw_iload_n 15 dX12_sign_14 rfl rfl rfl ?_
      refine sw_iconst (v := zI (-1)) 16 dX12_sign_15 rfl (by decide) ?_
      refine sw_icmp_eq 22 19 dX12_sign_16 (by decide) rfl (fun c16 => ?_) (fun c16 => ?_)
      · refine sw_aload_n 23 dX12_sign_22 rfl rfl rfl ?_
        refine sw_getR (b := 4) 26 dX12_sign_23 rfl gf_RX12_21 (fun _ _ _ _ => rfl) ⟨by decide, rfl⟩ rfl ?_
        refine sw_iload_n 27 dX12_sign_26 rfl rfl rfl ?_
        refine sw_iload_n 28 dX12_sign_27 rfl rfl rfl ?_
        refine sw_iast 29 dX12_sign_28 rfl ⟨by decide, rfl⟩ (by assumption) ?_
        refine sw_iconst (v := zI 1) 30 dX12_sign_29 rfl (by decide) ?_
        exact sw_iret dX12_sign_30 rfl (by
  rw [zI_eq (by omega) (by omega) (by omega) (by omega)] at c16
  rw [zI_clampN (by omega)]; exact fin (Or.inr c16))
      · rw [zI_eq (by omega) (by omega) (by omega) (by omega)] at c16
        refine sw_bipush (v := zI (-2)) 21 dX12_sign_19 rfl (by decide) ?_
        exact sw_iret dX12_sign_21 rfl (by
  unfold opSign; rw [if_pos c4, if_pos ⟨c11, c16⟩]; exact ⟨I, rfl⟩)
  · refine sw_iconst (v := zI (-1)) 8 dX12_sign_7 rfl (by decide) ?_
    exact sw_iret dX12_sign_8 rfl (by
  rw [ifz_eq] at c4
  unfold opSign; rw [if_neg c4]; exact ⟨I, rfl⟩)
theorem m_powerOf (K : okS σ) (I : IM h σ) {s i : Int} (s1 : -2147483648 ≤ s) (s2 : s < 2147483648) (i1 : -2147483648 ≤ i) (i2 : i < 2147483648) : sw_ct wM X l (d + 2) mX12_powerOf [.ref 0, .int (zI s), .int (zI i)] h (sw_qI wM X fun r h2 => IM h2 σ ∧ r = zI (opPowerOf σ s i)) := by
  have hn := K.1.1.1
  refine sw_ct_of (by decide +kernel) (Nat.le_of_ble_eq_true rfl) rfl ?_
  refine sw_iload_n 1 dX12_powerOf_0 rfl rfl rfl ?_
  refine sw_invSI 4 dX12_powerOf_1 rfl lk_RX12_132 (m_isShelf s1 s2) rfl rfl (Nat.le_of_ble_eq_true rfl) (fun r1 h1 hq1 => ?_)
  obtain ⟨rfl, rfl⟩ := hq1
  refine sw_if_eq 31 7 dX12_powerOf_4 (by decide) rfl (fun c4 => ?_) (fun c4 => ?_)
  · refine sw_iconst (v := zI (-1)) 32 dX12_powerOf_31 rfl (by decide) ?_
    exact sw_iret dX12_powerOf_32 rfl (by
  rw [ifz_eq] at c4
  unfold opPowerOf; rw [if_neg (fun hh => c4 hh.1)]; exact ⟨I, rfl⟩)
  · rw [ifz_eq, Decidable.not_not] at c4
    refine sw_aload_n 8 dX12_powerOf_7 rfl rfl rfl ?_
    refine sw_iload_n 9 dX12_powerOf_8 rfl rfl rfl ?_
    refine sw_invVI 12 dX12_powerOf_9 rfl lk_RX12_106 (m_isPrime I.1.1 (by omega) i1 i2) ⟨by decide, rfl⟩ rfl rfl (Nat.le_of_ble_eq_true rfl) (fun r9 h9 hq9 => ?_)
    obtain ⟨rfl, rfl⟩ := hq9
    refine sw_if_eq 31 15 dX12_powerOf_12 (by decide) rfl (fun c12 => ?_) (fun c12 => ?_)
    · refine sw_iconst (v := zI (-1)) 32 dX12_powerOf_31 rfl (by decide) ?_
      exact sw_iret dX12_powerOf_32 rfl (by
  rw [ifz_eq] at c12
  unfold opPowerOf; rw [if_neg (fun hh => c12 hh.2)]; exact ⟨I, rfl⟩)
    · rw [ifz_eq, Decidable.not_not] at c12
      obtain ⟨a, rfl⟩ := Int.eq_ofNat_of_zero_le c12.1
      obtain ⟨t, rfl⟩ := Int.eq_ofNat_of_zero_le c4.1
      have ht : t < 4 := by omega
      have e1 : zI 4 * zI t + zI a = zI ((4 * t + a : Nat) : Int) := by rw [zI_mul, zI_add]; rfl
      have hin := zI_inN (a := 4 * t + a) (n := 20) (by omega) (by decide)
      have e3 := (I.2.1 t ht).2 a (by omega)
      refine sw_aload_n 16 dX12_powerOf_15 rfl rfl rfl ?_
      refine sw_getR (b := 3) 19 dX12_powerOf_16 rfl gf_RX12_18 (fun _ _ _ _ => rfl) ⟨by decide, rfl⟩ rfl ?_
      refine sw_iconst (v := zI 4) 20 dX12_powerOf_19 rfl (by decide) ?_
      refine sw_iload_n 21 dX12_powerOf_20 rfl rfl rfl ?_
      refine sw_imul 22 dX12_powerOf_21 rfl ?_
      refine sw_iload_n 23 dX12_powerOf_22 rfl rfl rfl ?_
      refine sw_iadd 24 dX12_powerOf_23 rfl ?_
      rw [e1]
      refine sw_iald 25 dX12_powerOf_24 rfl ⟨by decide, rfl⟩ (by assumption) ?_
      rw [zI_clampN (by omega), e3]
      refine sw_bipush (v := zI 10) 27 dX12_powerOf_25 rfl (by decide) ?_
      refine sw_iadd 28 dX12_powerOf_27 rfl ?_
      refine sw_goto 32 dX12_powerOf_28 (by decide) ?_
      exact sw_iret dX12_powerOf_32 rfl (by
  unfold opPowerOf; rw [if_pos ⟨c4, c12⟩, zI_add]; exact ⟨I, rfl⟩)
theorem m_value (K : okS σ) (I : IM h σ) {s x : Int} (s1 : -2147483648 ≤ s) (s2 : s < 2147483648) (x1 : -2147483648 ≤ x) (x2 : x < 2147483648) : sw_ct wM X l (d + 2) mX12_value [.ref 0, .int (zI s), .int (zI x)] h (sw_qL wM X fun r h2 => IM h2 σ ∧ r = zL (opValue σ s x)) := by
  have hn := K.1.1.1
  refine sw_ct_of (by decide +kernel) (Nat.le_of_ble_eq_true rfl) rfl ?_
  refine sw_iload_n 1 dX12_value_0 rfl rfl rfl ?_
  refine sw_invSI 4 dX12_value_1 rfl lk_RX12_132 (m_isShelf s1 s2) rfl rfl (Nat.le_of_ble_eq_true rfl) (fun r1 h1 hq1 => ?_)
  obtain ⟨rfl, rfl⟩ := hq1
  refine sw_if_eq 16 7 dX12_value_4 (by decide) rfl (fun c4 => ?_) (fun c4 => ?_)
  · refine sw_ldc2 19 dX12_value_16 rfl (show Cond.constantLong RX12 135 (zL (-9223372036854775808)) ∈ sw_big from kk_RX12_135) ?_
    exact sw_lret dX12_value_19 rfl (by
  rw [ifz_eq] at c4
  unfold opValue; rw [if_neg (fun hh => c4 hh.1)]; exact ⟨I, rfl⟩)
  · rw [ifz_eq, Decidable.not_not] at c4
    refine sw_iload_n 8 dX12_value_7 rfl rfl rfl ?_
    refine sw_iconst (v := zI 0) 9 dX12_value_8 rfl (by decide) ?_
    refine sw_iconst (v := zI 1) 10 dX12_value_9 rfl (by decide) ?_
    refine sw_invSI 13 dX12_value_10 rfl lk_RX12_87 (c_in x1 x2 (by decide) (by decide) (by decide) (by decide)) rfl rfl (Nat.le_of_ble_eq_true rfl) (fun r10 h10 hq10 => ?_)
    obtain ⟨rfl, rfl⟩ := hq10
    refine sw_if_ne 20 16 dX12_value_13 (by decide) rfl (fun c13 => ?_) (fun c13 => ?_)
    · rw [ifz_eq, Decidable.not_not] at c13
      obtain ⟨t, rfl⟩ := Int.eq_ofNat_of_zero_le c4.1
      have ht : t < 4 := by omega
      refine sw_aload_n 21 dX12_value_20 rfl rfl rfl ?_
      refine sw_iload_n 22 dX12_value_21 rfl rfl rfl ?_
      refine sw_invVV 25 dX12_value_22 rfl lk_RX12_137 (m_looks K I ht) ⟨by decide, rfl⟩ rfl rfl (Nat.le_of_ble_eq_true rfl) (fun h22 hq22 => ?_)
      obtain ⟨A, R, S⟩ := hq22
      have I2 := IM_fr I A (by decide) (by decide)
      refine sw_iload_n 26 dX12_value_25 rfl rfl rfl ?_
      refine sw_if_ne 44 29 dX12_value_26 (by decide) rfl (fun c26 => ?_) (fun c26 => ?_)
      · rw [z0, zI_eq (by omega) (by omega) (by omega) (by omega)] at c26
        refine sw_aload_n 45 dX12_value_44 rfl rfl rfl ?_
        refine sw_aload_n 46 dX12_value_45 rfl rfl rfl ?_
        refine sw_getR (b := 9) 49 dX12_value_46 rfl gf_RX12_37 (fun _ _ _ _ => rfl) ⟨by decide, rfl⟩ rfl ?_
        refine sw_invVL 52 dX12_value_49 rfl lk_RX12_112 (m_belowOf I2.1 hn (fun i hi => kB_2 K hi) r9 R (fun i hi => by have := e6 K ht hi; omega)) ⟨by decide, rfl⟩ rfl rfl (Nat.le_of_ble_eq_true rfl) (fun r49 h49 hq49 => ?_)
        obtain ⟨rfl, rfl⟩ := hq49
        exact sw_lret dX12_value_52 rfl (by unfold opValue; rw [if_pos ⟨c4, by omega⟩, if_neg c26]; exact ⟨I2, rfl⟩)
      · rw [z0, zI_eq (by omega) (by omega) (by omega) (by omega)] at c26
        refine sw_aload_n 30 dX12_value_29 rfl rfl rfl ?_
        refine sw_aload_n 31 dX12_value_30 rfl rfl rfl ?_
        refine sw_getR (b := 9) 34 dX12_value_31 rfl gf_RX12_37 (fun _ _ _ _ => rfl) ⟨by decide, rfl⟩ rfl ?_
        refine sw_aload_n 35 dX12_value_34 rfl rfl rfl ?_
        refine sw_getI 38 dX12_value_35 rfl gf_RX12_109 rfl ⟨by decide, rfl⟩ ?_
        rw [S]
        refine sw_invVL 41 dX12_value_38 rfl lk_RX12_116 (m_aboveOf I2.1 hn (fun i hi => kB_2 K hi) r9 R (fun i hi => by have := e6 K ht hi; omega) (K.1.2.1 t ht).1) ⟨by decide, rfl⟩ rfl rfl (Nat.le_of_ble_eq_true rfl) (fun r38 h38 hq38 => ?_)
        obtain ⟨rfl, rfl⟩ := hq38
        refine sw_goto 52 dX12_value_41 (by decide) ?_
        exact sw_lret dX12_value_52 rfl (by unfold opValue; rw [if_pos ⟨c4, by omega⟩, if_pos c26]; exact ⟨I2, rfl⟩)
    · refine sw_ldc2 19 dX12_value_16 rfl (show Cond.constantLong RX12 135 (zL (-9223372036854775808)) ∈ sw_big from kk_RX12_135) ?_
      exact sw_lret dX12_value_19 rfl (by
  rw [ifz_eq] at c13
  unfold opValue; rw [if_neg (fun hh => c13 (by omega))]; exact ⟨I, rfl⟩)
theorem m_height (K : okS σ) (I : IM h σ) {s : Int} (s1 : -2147483648 ≤ s) (s2 : s < 2147483648) : sw_ct wM X l (d + 2) mX12_height [.ref 0, .int (zI s)] h (sw_qI wM X fun r h2 => IM h2 σ ∧ r = zI (opHeight σ s)) := by
  have hn := K.1.1.1
  refine sw_ct_of (by decide +kernel) (Nat.le_of_ble_eq_true rfl) rfl ?_
  refine sw_iload_n 1 dX12_height_0 rfl rfl rfl ?_
  refine sw_invSI 4 dX12_height_1 rfl lk_RX12_132 (m_isShelf s1 s2) rfl rfl (Nat.le_of_ble_eq_true rfl) (fun r1 h1 hq1 => ?_)
  obtain ⟨rfl, rfl⟩ := hq1
  refine sw_if_ne 9 7 dX12_height_4 (by decide) rfl (fun c4 => ?_) (fun c4 => ?_)
  · rw [ifz_eq, Decidable.not_not] at c4
    obtain ⟨t, rfl⟩ := Int.eq_ofNat_of_zero_le c4.1
    have ht : t < 4 := by omega
    refine sw_aload_n 10 dX12_height_9 rfl rfl rfl ?_
    refine sw_iload_n 11 dX12_height_10 rfl rfl rfl ?_
    refine sw_invVV 14 dX12_height_11 rfl lk_RX12_137 (m_looks K I ht) ⟨by decide, rfl⟩ rfl rfl (Nat.le_of_ble_eq_true rfl) (fun h11 hq11 => ?_)
    obtain ⟨A, R, S⟩ := hq11
    have I2 := IM_fr I A (by decide) (by decide)
    refine sw_aload_n 15 dX12_height_14 rfl rfl rfl ?_
    refine sw_aload_n 16 dX12_height_15 rfl rfl rfl ?_
    refine sw_getR (b := 9) 19 dX12_height_16 rfl gf_RX12_37 (fun _ _ _ _ => rfl) ⟨by decide, rfl⟩ rfl ?_
    refine sw_invVI 22 dX12_height_19 rfl lk_RX12_144 (m_heightOf I2.1 hn r9 R (fun i hi => by have := e6 K ht hi; omega)) ⟨by decide, rfl⟩ rfl rfl (Nat.le_of_ble_eq_true rfl) (fun r19 h19 hq19 => ?_)
    obtain ⟨rfl, rfl⟩ := hq19
    exact sw_iret dX12_height_22 rfl (by unfold opHeight; rw [if_pos c4]; simp only [Int.toNat_natCast]; rw [top4 K ht]; exact ⟨I2, rfl⟩)
  · refine sw_iconst (v := zI (-1)) 8 dX12_height_7 rfl (by decide) ?_
    exact sw_iret dX12_height_8 rfl (by
  rw [ifz_eq] at c4
  unfold opHeight; rw [if_neg c4]; exact ⟨I, rfl⟩)
theorem m_isIn (K : okS σ) (I : IM h σ) {s : Int} (s1 : -2147483648 ≤ s) (s2 : s < 2147483648) : sw_ct wM X l (d + 2) mX12_isIn [.ref 0, .int (zI s)] h (sw_qI wM X fun r h2 => IM h2 σ ∧ r = zI (opIsIn σ s)) := by
  have hn := K.1.1.1
  refine sw_ct_of (by decide +kernel) (Nat.le_of_ble_eq_true rfl) rfl ?_
  refine sw_iload_n 1 dX12_isIn_0 rfl rfl rfl ?_
  refine sw_invSI 4 dX12_isIn_1 rfl lk_RX12_132 (m_isShelf s1 s2) rfl rfl (Nat.le_of_ble_eq_true rfl) (fun r1 h1 hq1 => ?_)
  obtain ⟨rfl, rfl⟩ := hq1
  refine sw_if_ne 9 7 dX12_isIn_4 (by decide) rfl (fun c4 => ?_) (fun c4 => ?_)
  · rw [ifz_eq, Decidable.not_not] at c4
    obtain ⟨t, rfl⟩ := Int.eq_ofNat_of_zero_le c4.1
    have ht : t < 4 := by omega
    refine sw_aload_n 10 dX12_isIn_9 rfl rfl rfl ?_
    refine sw_iload_n 11 dX12_isIn_10 rfl rfl rfl ?_
    refine sw_invVV 14 dX12_isIn_11 rfl lk_RX12_137 (m_looks K I ht) ⟨by decide, rfl⟩ rfl rfl (Nat.le_of_ble_eq_true rfl) (fun h11 hq11 => ?_)
    obtain ⟨A, R, S⟩ := hq11
    have I2 := IM_fr I A (by decide) (by decide)
    refine sw_aload_n 15 dX12_isIn_14 rfl rfl rfl ?_
    refine sw_aload_n 16 dX12_isIn_15 rfl rfl rfl ?_
    refine sw_getR (b := 9) 19 dX12_isIn_16 rfl gf_RX12_37 (fun _ _ _ _ => rfl) ⟨by decide, rfl⟩ rfl ?_
    refine sw_invVI 22 dX12_isIn_19 rfl lk_RX12_148 (m_isInBox I2.1 hn (fun i hi => K.1.1.2.2.2.2 i hi) r9 R (fun i hi => by have := e6 K ht hi; omega)) ⟨by decide, rfl⟩ rfl rfl (Nat.le_of_ble_eq_true rfl) (fun r19 h19 hq19 => ?_)
    obtain ⟨rfl, rfl⟩ := hq19
    refine sw_if_eq 29 25 dX12_isIn_22 (by decide) rfl (fun c22 => ?_) (fun c22 => ?_)
    · refine sw_iconst (v := zI 0) 30 dX12_isIn_29 rfl (by decide) ?_
      exact sw_iret dX12_isIn_30 rfl (by
  rw [bIz_eq] at c22
  unfold opIsIn; rw [if_pos c4]; simp only [Int.toNat_natCast]; rw [if_neg (by rw [c22]; decide)]; exact ⟨I2, rfl⟩)
    · refine sw_iconst (v := zI 1) 26 dX12_isIn_25 rfl (by decide) ?_
      refine sw_goto 30 dX12_isIn_26 (by decide) ?_
      exact sw_iret dX12_isIn_30 rfl (by
  rw [bIz_eq, Bool.not_eq_false] at c22
  unfold opIsIn; rw [if_pos c4]; simp only [Int.toNat_natCast]; rw [if_pos c22]; exact ⟨I2, rfl⟩)
  · refine sw_iconst (v := zI (-1)) 8 dX12_isIn_7 rfl (by decide) ?_
    exact sw_iret dX12_isIn_8 rfl (by
  rw [ifz_eq] at c4
  unfold opIsIn; rw [if_neg c4]; exact ⟨I, rfl⟩)
theorem topZ_iff {e : Nat → Int} {B : Int} (hB : 0 ≤ B) : ∀ m, topZ e m ≤ B ↔ ∀ i, i < m → ((e i).natAbs : Int) ≤ B
  | 0 => ⟨fun _ i hi => absurd hi (Nat.not_lt_zero i), fun _ => hB⟩
  | m + 1 => by
    have ih := topZ_iff (e := e) hB m
    refine ⟨fun h => topZ_le (m + 1) h, fun h => ?_⟩
    have h1 := ih.mpr (fun i hi => h i (by omega))
    have h2 := h m (by omega)
    unfold topZ; omega
theorem m_joins (K : okS σ) (I : IM h σ) {s o to t : Int} (s1 : -2147483648 ≤ s) (s2 : s < 2147483648) (o1 : -2147483648 ≤ o) (o2 : o < 2147483648) (t1 : -2147483648 ≤ to) (t2 : to < 2147483648) (ht : t = 1 ∨ t = -1) : sw_ct wM X l (d + 2) mX12_joins [.ref 0, .int (zI s), .int (zI o), .int (zI to), .int (zI t)] h (sw_qI wM X fun r h2 => IM h2 (opJoin σ s o to t).2 ∧ r = zI (opJoin σ s o to t).1) := by
  have hn := K.1.1.1
  refine sw_ct_of (by decide +kernel) (Nat.le_of_ble_eq_true rfl) rfl ?_
  generalize hQ : (sw_qI wM X fun r h2 => IM h2 (opJoin σ s o to t).2 ∧ r = zI (opJoin σ s o to t).1) = Qc
  have loop : ∀ a b c : Nat, s = (a : Nat) → o = (b : Nat) → to = (c : Nat) → a < 4 → b < 4 → c < 4 → ∀ (m j : Nat) (g : sw_H), j + m = σ.1.1.1 → frM [11] [] h g → (∀ i, i < j → g.1 11 i = zI (joinE σ a b t i)) → (∀ i, i < j → ((joinE σ a b t i).natAbs : Int) ≤ 6) → sw_wp wM X l (d + 2) mX12_joins Qc 26 [(0, .ref 0), (1, .int (zI s)), (2, .int (zI o)), (3, .int (zI to)), (4, .int (zI t)), (5, .int (zI j))] [] g := by
    intro a b c ea eb ec ha hb hc m
    have ka := (K.1.2.1 a ha)
    have kb := (K.1.2.1 b hb)
    induction m with
    | zero =>
      intro j g hj A g1 g2
      have : j = σ.1.1.1 := by omega
      subst this
      have I2 := IM_fr I A (by decide) (by decide)
      have hin1 := zI_inN (a := a) (n := 4) ha (by decide)
      have hin2 := zI_inN (a := b) (n := 4) hb (by decide)
      have e1 := (I2.2.1 a ha).1
      have e2 := (I2.2.1 b hb).1
      have top : topZ (joinE σ a b t) 4 ≤ 6 := (topZ_iff (by decide) 4).mpr (fun i hi => by
        by_cases c : i < σ.1.1.1
        · exact g2 i c
        · have z1 := (ka.2 i hi).2.2 (by omega)
          have z2 := (kb.2 i hi).2.2 (by omega)
          unfold joinE; rw [z1, z2, Int.mul_zero]; decide)
      subst hQ
      rw [ea, eb, ec]
      refine sw_iload 28 dX12_joins_26 rfl rfl ?_
      refine sw_aload_n 29 dX12_joins_28 rfl rfl rfl ?_
      refine sw_getI 32 dX12_joins_29 rfl gf_RX12_83 rfl ⟨by decide, rfl⟩ ?_
      rw [I2.1.1]
      refine sw_icmp_ge 94 35 dX12_joins_32 (by decide) rfl (fun c32 => ?_) (fun c32 => ?_)
      · refine sw_aload_n 95 dX12_joins_94 rfl rfl rfl ?_
        refine sw_iload_n 96 dX12_joins_95 rfl rfl rfl ?_
        refine sw_aload_n 97 dX12_joins_96 rfl rfl rfl ?_
        refine sw_getR (b := 11) 100 dX12_joins_97 rfl gf_RX12_43 (fun _ _ _ _ => rfl) ⟨by decide, rfl⟩ rfl ?_
        refine sw_aload_n 101 dX12_joins_100 rfl rfl rfl ?_
        refine sw_getR (b := 4) 104 dX12_joins_101 rfl gf_RX12_21 (fun _ _ _ _ => rfl) ⟨by decide, rfl⟩ rfl ?_
        refine sw_iload_n 105 dX12_joins_104 rfl rfl rfl ?_
        refine sw_iald 106 dX12_joins_105 rfl ⟨by decide, rfl⟩ (by assumption) ?_
        rw [zI_clampN (by omega), e1]
        refine sw_aload_n 107 dX12_joins_106 rfl rfl rfl ?_
        refine sw_getR (b := 4) 110 dX12_joins_107 rfl gf_RX12_21 (fun _ _ _ _ => rfl) ⟨by decide, rfl⟩ rfl ?_
        refine sw_iload_n 111 dX12_joins_110 rfl rfl rfl ?_
        refine sw_iald 112 dX12_joins_111 rfl ⟨by decide, rfl⟩ (by assumption) ?_
        rw [zI_clampN (by omega), e2]
        refine sw_imul 113 dX12_joins_112 rfl ?_
        rw [zI_mul]
        refine sw_invVV 116 dX12_joins_113 rfl lk_RX12_152 (m_gets K I2 hc r11 (by decide) (by decide) g1) ⟨by decide, rfl⟩ rfl rfl (Nat.le_of_ble_eq_true rfl) (fun h113 hq113 => ?_)
        obtain ⟨I3, -⟩ := hq113
        refine sw_iconst (v := zI 1) 117 dX12_joins_116 rfl (by decide) ?_
        exact sw_iret dX12_joins_117 rfl (by
  unfold opJoin; rw [if_pos (by omega)]; simp only [Int.toNat_natCast]; rw [if_pos top]; exact ⟨I3, rfl⟩)
      · exact absurd (Int32.le_refl _) c32
    | succ m ih =>
      intro j g hj A g1 g2
      have I2 := IM_fr I A (by decide) (by decide)
      have x1 : zI 4 * zI a + zI j = zI ((4 * a + j : Nat) : Int) := by rw [zI_mul, zI_add]; rfl
      have x2 : zI 4 * zI b + zI j = zI ((4 * b + j : Nat) : Int) := by rw [zI_mul, zI_add]; rfl
      have hin1 := zI_inN (a := 4 * a + j) (n := 20) (by omega) (by decide)
      have hin2 := zI_inN (a := 4 * b + j) (n := 20) (by omega) (by decide)
      have hin3 := zI_inN (a := j) (n := 4) (by omega) (by decide)
      have e1 := (I2.2.1 a ha).2 j (by omega)
      have e2 := (I2.2.1 b hb).2 j (by omega)
      have b1 := e6 K ha (show j < σ.1.1.1 by omega)
      have b2 := e6 K hb (show j < σ.1.1.1 by omega)
      have ej : σ.1.2.1.2 a j + t * σ.1.2.1.2 b j = joinE σ a b t j := rfl
      have bj : -12 ≤ joinE σ a b t j ∧ joinE σ a b t j ≤ 12 := by rw [← ej]; rcases ht with rfl | rfl <;> omega
      rw [ea, eb]
      refine sw_iload 28 dX12_joins_26 rfl rfl ?_
      refine sw_aload_n 29 dX12_joins_28 rfl rfl rfl ?_
      refine sw_getI 32 dX12_joins_29 rfl gf_RX12_83 rfl ⟨by decide, rfl⟩ ?_
      rw [I2.1.1]
      refine sw_icmp_ge 94 35 dX12_joins_32 (by decide) rfl (fun c32 => ?_) (fun c32 => ?_)
      · exact absurd c32 (by rw [zI_le (by omega) (by omega) (by omega) (by omega)]; omega)
      · refine sw_aload_n 36 dX12_joins_35 rfl rfl rfl ?_
        refine sw_getR (b := 11) 39 dX12_joins_36 rfl gf_RX12_43 (fun _ _ _ _ => rfl) ⟨by decide, rfl⟩ rfl ?_
        refine sw_iload 41 dX12_joins_39 rfl rfl ?_
        refine sw_aload_n 42 dX12_joins_41 rfl rfl rfl ?_
        refine sw_getR (b := 3) 45 dX12_joins_42 rfl gf_RX12_18 (fun _ _ _ _ => rfl) ⟨by decide, rfl⟩ rfl ?_
        refine sw_iconst (v := zI 4) 46 dX12_joins_45 rfl (by decide) ?_
        refine sw_iload_n 47 dX12_joins_46 rfl rfl rfl ?_
        refine sw_imul 48 dX12_joins_47 rfl ?_
        refine sw_iload 50 dX12_joins_48 rfl rfl ?_
        refine sw_iadd 51 dX12_joins_50 rfl ?_
        rw [x1]
        refine sw_iald 52 dX12_joins_51 rfl ⟨by decide, rfl⟩ (by assumption) ?_
        rw [zI_clampN (by omega), e1]
        refine sw_iload 54 dX12_joins_52 rfl rfl ?_
        refine sw_aload_n 55 dX12_joins_54 rfl rfl rfl ?_
        refine sw_getR (b := 3) 58 dX12_joins_55 rfl gf_RX12_18 (fun _ _ _ _ => rfl) ⟨by decide, rfl⟩ rfl ?_
        refine sw_iconst (v := zI 4) 59 dX12_joins_58 rfl (by decide) ?_
        refine sw_iload_n 60 dX12_joins_59 rfl rfl rfl ?_
        refine sw_imul 61 dX12_joins_60 rfl ?_
        refine sw_iload 63 dX12_joins_61 rfl rfl ?_
        refine sw_iadd 64 dX12_joins_63 rfl ?_
        rw [x2]
        refine sw_iald 65 dX12_joins_64 rfl ⟨by decide, rfl⟩ (by assumption) ?_
        rw [zI_clampN (by omega), e2]
        refine sw_imul 66 dX12_joins_65 rfl ?_
        rw [zI_mul]
        refine sw_iadd 67 dX12_joins_66 rfl ?_
        rw [zI_add, ej]
        refine sw_iast 68 dX12_joins_67 rfl ⟨by decide, rfl⟩ (by assumption) ?_
        rw [zI_clampN (by omega)]
        refine sw_aload_n 69 dX12_joins_68 rfl rfl rfl ?_
        refine sw_getR (b := 11) 72 dX12_joins_69 rfl gf_RX12_43 (fun _ _ _ _ => rfl) ⟨by decide, rfl⟩ rfl ?_
        refine sw_iload 74 dX12_joins_72 rfl rfl ?_
        refine sw_iald 75 dX12_joins_74 rfl ⟨by decide, rfl⟩ (by assumption) ?_
        rw [zI_clampN (by omega), show (sw_wI g 11 j (zI (joinE σ a b t j))).1 11 j = zI (joinE σ a b t j) from by rw [sw_wI_at]; simp [va_up]]
        refine sw_bipush (v := zI (-6)) 77 dX12_joins_75 rfl (by decide) ?_
        refine sw_bipush (v := zI 6) 79 dX12_joins_77 rfl (by decide) ?_
        refine sw_invSI 82 dX12_joins_79 rfl lk_RX12_87 (c_in (by omega) (by omega) (by decide) (by decide) (by decide) (by decide)) rfl rfl (Nat.le_of_ble_eq_true rfl) (fun r79 h79 hq79 => ?_)
        obtain ⟨rfl, rfl⟩ := hq79
        refine sw_if_ne 88 85 dX12_joins_82 (by decide) rfl (fun c82 => ?_) (fun c82 => ?_)
        · refine sw_iinc (v := zI 1) (lc' := [(0, _), (1, _), (2, _), (3, _), (4, _), (5, _)]) 91 dX12_joins_88 rfl (by decide) rfl rfl rfl ?_
          refine sw_goto 26 dX12_joins_91 (by decide) ?_
          rw [ifz_eq, Decidable.not_not] at c82
          rw [zI_add, ← ea, ← eb]
          refine ih (j + 1) _ (by omega) (frM_tr A (frM_wI (by decide) (by decide))) (fun i hi => ?_) (fun i hi => ?_)
          · rw [sw_wI_at]
            unfold va_up
            by_cases c : i = j
            · rw [if_pos c, c]
            · rw [if_neg c]; exact g1 i (by omega)
          · by_cases c : i = j
            · rw [c]; omega
            · exact g2 i (by omega)
        · subst hQ
          refine sw_bipush (v := zI (-6)) 87 dX12_joins_85 rfl (by decide) ?_
          exact sw_iret dX12_joins_87 rfl (by
  rw [ifz_eq] at c82
  unfold opJoin; rw [ea, eb, ec, if_pos (by omega)]; simp only [Int.toNat_natCast]
  rw [if_neg (fun hh => by have := topZ_le 4 hh j (by omega); omega)]
  exact ⟨IM_fr I (frM_tr A (frM_wI (by decide) (by decide))) (by decide) (by decide), rfl⟩)
  refine sw_iload_n 1 dX12_joins_0 rfl rfl rfl ?_
  refine sw_invSI 4 dX12_joins_1 rfl lk_RX12_132 (m_isShelf s1 s2) rfl rfl (Nat.le_of_ble_eq_true rfl) (fun r1 h1 hq1 => ?_)
  obtain ⟨rfl, rfl⟩ := hq1
  refine sw_if_eq 21 7 dX12_joins_4 (by decide) rfl (fun c4 => ?_) (fun c4 => ?_)
  · subst hQ
    refine sw_iconst (v := zI (-1)) 22 dX12_joins_21 rfl (by decide) ?_
    exact sw_iret dX12_joins_22 rfl (by
  rw [ifz_eq] at c4
  unfold opJoin; rw [if_neg (fun hh => c4 hh.1)]; exact ⟨I, rfl⟩)
  · rw [ifz_eq, Decidable.not_not] at c4
    refine sw_iload_n 8 dX12_joins_7 rfl rfl rfl ?_
    refine sw_invSI 11 dX12_joins_8 rfl lk_RX12_132 (m_isShelf o1 o2) rfl rfl (Nat.le_of_ble_eq_true rfl) (fun r8 h8 hq8 => ?_)
    obtain ⟨rfl, rfl⟩ := hq8
    refine sw_if_eq 21 14 dX12_joins_11 (by decide) rfl (fun c11 => ?_) (fun c11 => ?_)
    · subst hQ
      refine sw_iconst (v := zI (-1)) 22 dX12_joins_21 rfl (by decide) ?_
      exact sw_iret dX12_joins_22 rfl (by
  rw [ifz_eq] at c11
  unfold opJoin; rw [if_neg (fun hh => c11 hh.2.1)]; exact ⟨I, rfl⟩)
    · rw [ifz_eq, Decidable.not_not] at c11
      refine sw_iload_n 15 dX12_joins_14 rfl rfl rfl ?_
      refine sw_invSI 18 dX12_joins_15 rfl lk_RX12_132 (m_isShelf t1 t2) rfl rfl (Nat.le_of_ble_eq_true rfl) (fun r15 h15 hq15 => ?_)
      obtain ⟨rfl, rfl⟩ := hq15
      refine sw_if_ne 23 21 dX12_joins_18 (by decide) rfl (fun c18 => ?_) (fun c18 => ?_)
      · refine sw_iconst (v := zI 0) 24 dX12_joins_23 rfl (by decide) ?_
        refine sw_istore (lc' := [(0, _), (1, _), (2, _), (3, _), (4, _), (5, _)]) 26 dX12_joins_24 rfl (by decide) rfl ?_
        rw [ifz_eq, Decidable.not_not] at c18
        obtain ⟨a, ea⟩ := Int.eq_ofNat_of_zero_le c4.1
        obtain ⟨b, eb⟩ := Int.eq_ofNat_of_zero_le c11.1
        obtain ⟨c, ec⟩ := Int.eq_ofNat_of_zero_le c18.1
        exact loop a b c ea eb ec (by omega) (by omega) (by omega) σ.1.1.1 0 _ (by omega) frM_rf (fun i hi => absurd hi (Nat.not_lt_zero i)) (fun i hi => absurd hi (Nat.not_lt_zero i))
      · subst hQ
        refine sw_iconst (v := zI (-1)) 22 dX12_joins_21 rfl (by decide) ?_
        exact sw_iret dX12_joins_22 rfl (by
  rw [ifz_eq] at c18
  unfold opJoin; rw [if_neg (fun hh => c18 hh.2.2)]; exact ⟨I, rfl⟩)
theorem m_times (K : okS σ) (I : IM h σ) {s o to : Int} (s1 : -2147483648 ≤ s) (s2 : s < 2147483648) (o1 : -2147483648 ≤ o) (o2 : o < 2147483648) (t1 : -2147483648 ≤ to) (t2 : to < 2147483648) : sw_ct wM X l (d + 3) mX12_times [.ref 0, .int (zI s), .int (zI o), .int (zI to)] h (sw_qI wM X fun r h2 => IM h2 (opJoin σ s o to 1).2 ∧ r = zI (opJoin σ s o to 1).1) := by
  refine sw_ct_of (by decide +kernel) (Nat.le_of_ble_eq_true rfl) rfl ?_
  refine sw_aload_n 1 dX12_times_0 rfl rfl rfl ?_
  refine sw_iload_n 2 dX12_times_1 rfl rfl rfl ?_
  refine sw_iload_n 3 dX12_times_2 rfl rfl rfl ?_
  refine sw_iload_n 4 dX12_times_3 rfl rfl rfl ?_
  refine sw_iconst (v := zI 1) 5 dX12_times_4 rfl (by decide) ?_
  refine sw_invVI 8 dX12_times_5 rfl lk_RX12_156 (m_joins K I s1 s2 o1 o2 t1 t2 (Or.inl rfl)) ⟨by decide, rfl⟩ rfl rfl (Nat.le_of_ble_eq_true rfl) (fun r5 h5 hq5 => ?_)
  skip
  exact sw_iret dX12_times_8 rfl (hq5)
theorem m_over (K : okS σ) (I : IM h σ) {s o to : Int} (s1 : -2147483648 ≤ s) (s2 : s < 2147483648) (o1 : -2147483648 ≤ o) (o2 : o < 2147483648) (t1 : -2147483648 ≤ to) (t2 : to < 2147483648) : sw_ct wM X l (d + 3) mX12_over [.ref 0, .int (zI s), .int (zI o), .int (zI to)] h (sw_qI wM X fun r h2 => IM h2 (opJoin σ s o to (-1)).2 ∧ r = zI (opJoin σ s o to (-1)).1) := by
  refine sw_ct_of (by decide +kernel) (Nat.le_of_ble_eq_true rfl) rfl ?_
  refine sw_aload_n 1 dX12_over_0 rfl rfl rfl ?_
  refine sw_iload_n 2 dX12_over_1 rfl rfl rfl ?_
  refine sw_iload_n 3 dX12_over_2 rfl rfl rfl ?_
  refine sw_iload_n 4 dX12_over_3 rfl rfl rfl ?_
  refine sw_iconst (v := zI (-1)) 5 dX12_over_4 rfl (by decide) ?_
  refine sw_invVI 8 dX12_over_5 rfl lk_RX12_156 (m_joins K I s1 s2 o1 o2 t1 t2 (Or.inr rfl)) ⟨by decide, rfl⟩ rfl rfl (Nat.le_of_ble_eq_true rfl) (fun r5 h5 hq5 => ?_)
  skip
  exact sw_iret dX12_over_8 rfl (hq5)
end sw_m5
