/-! THE REFERENCE, 4: units -/
theorem r9 : sw_r wM 9 0 4 := ⟨by decide, rfl⟩
theorem r10 : sw_r wM 10 0 4 := ⟨by decide, rfl⟩
theorem r11 : sw_r wM 11 0 4 := ⟨by decide, rfl⟩
/-- a row of powers -/
def rwM (h : sw_H) (a n : Nat) (e : Nat → Int) : Prop := ∀ i, i < n → h.1 a i = zI (e i)
theorem rwM_fr {L F : List Nat} {h h2 : sw_H} {a n : Nat} {e : Nat → Int} (V : rwM h a n e) (A : frM L F h h2) (h0 : a ≠ 0) (ha : a ∉ L) : rwM h2 a n e := fun i hi => by rw [A.1 a h0 ha]; exact V i hi
section sw_m4
variable {X : sw_X} {l : Launch} {d : Nat} {h : sw_H} {σ : SgZ}
theorem m_looks (K : okS σ) (I : IM h σ) {s : Nat} (hs : s < 4) : sw_ct wM X l d mX12_looks [.ref 0, .int (zI s)] h (sw_qV wM X fun h2 => frM [9] [14] h h2 ∧ rwM h2 9 σ.1.1.1 (σ.1.2.1.2 s) ∧ h2.1 0 14 = zI (σ.1.2.1.1 s)) := by
  have hn := K.1.1.1
  refine sw_ct_of (by decide +kernel) (Nat.le_of_ble_eq_true rfl) rfl ?_
  generalize hQ : (sw_qV wM X fun h2 => frM [9] [14] h h2 ∧ rwM h2 9 σ.1.1.1 (σ.1.2.1.2 s) ∧ h2.1 0 14 = zI (σ.1.2.1.1 s)) = Qc
  have loop : ∀ (c j : Nat) (F : Nat → Int32), j + c = σ.1.1.1 → (∀ i, i < j → F i = zI (σ.1.2.1.2 s i)) → sw_wp wM X l d mX12_looks Qc 2 [(0, .ref 0), (1, .int (zI s)), (2, .int (zI j))] [] (sw_pI h 9 F) := by
    intro c
    have e0 : ∀ F, (sw_pI h 9 F).1 0 0 = zI σ.1.1.1 := fun F => by rw [sw_pI_ne (by decide)]; exact I.1.1
    induction c with
    | zero =>
      intro j F hj hF
      have : j = σ.1.1.1 := by omega
      subst this
      have hin := zI_inN (a := s) (n := 4) hs (by decide)
      have e4 : (sw_pI h 9 F).1 4 s = zI (σ.1.2.1.1 s) := by rw [sw_pI_ne (by decide)]; exact (I.2.1 s hs).1
      subst hQ
      refine sw_iload_n 3 dX12_looks_2 rfl rfl rfl ?_
      refine sw_aload_n 4 dX12_looks_3 rfl rfl rfl ?_
      refine sw_getI 7 dX12_looks_4 rfl gf_RX12_83 rfl ⟨by decide, rfl⟩ ?_
      rw [e0]
      refine sw_icmp_ge 32 10 dX12_looks_7 (by decide) rfl (fun c7 => ?_) (fun c7 => ?_)
      · refine sw_aload_n 33 dX12_looks_32 rfl rfl rfl ?_
        refine sw_aload_n 34 dX12_looks_33 rfl rfl rfl ?_
        refine sw_getR (b := 4) 37 dX12_looks_34 rfl gf_RX12_21 (fun _ _ _ _ => rfl) ⟨by decide, rfl⟩ rfl ?_
        refine sw_iload_n 38 dX12_looks_37 rfl rfl rfl ?_
        refine sw_iald 39 dX12_looks_38 rfl ⟨by decide, rfl⟩ (by assumption) ?_
        rw [zI_clampN (by omega), e4]
        refine sw_putI 42 dX12_looks_39 rfl pf_RX12_109 rfl ⟨by decide, rfl⟩ ?_
        exact sw_vret dX12_looks_42 rfl (⟨frM_tr (frM_pI (by decide) (by decide)) (frM_w0 (by decide)), fun i hi => by rw [sw_wI_ne (by decide), sw_pI_at]; exact hF i hi, by rw [sw_wI_at]; simp [va_up]⟩)
      · exact absurd (Int32.le_refl _) c7
    | succ c ih =>
      intro j F hj hF
      have e1 : zI 4 * zI s + zI j = zI ((4 * s + j : Nat) : Int) := by rw [zI_mul, zI_add]; rfl
      have hin1 := zI_inN (a := 4 * s + j) (n := 20) (by omega) (by decide)
      have hin2 := zI_inN (a := j) (n := 4) (by omega) (by decide)
      have e3 : (sw_pI h 9 F).1 3 (4 * s + j) = zI (σ.1.2.1.2 s j) := by rw [sw_pI_ne (by decide)]; exact (I.2.1 s hs).2 j (by omega)
      refine sw_iload_n 3 dX12_looks_2 rfl rfl rfl ?_
      refine sw_aload_n 4 dX12_looks_3 rfl rfl rfl ?_
      refine sw_getI 7 dX12_looks_4 rfl gf_RX12_83 rfl ⟨by decide, rfl⟩ ?_
      rw [e0]
      refine sw_icmp_ge 32 10 dX12_looks_7 (by decide) rfl (fun c7 => ?_) (fun c7 => ?_)
      · exact absurd c7 (by rw [zI_le (by omega) (by omega) (by omega) (by omega)]; omega)
      · refine sw_aload_n 11 dX12_looks_10 rfl rfl rfl ?_
        refine sw_getR (b := 9) 14 dX12_looks_11 rfl gf_RX12_37 (fun _ _ _ _ => rfl) ⟨by decide, rfl⟩ rfl ?_
        refine sw_iload_n 15 dX12_looks_14 rfl rfl rfl ?_
        refine sw_aload_n 16 dX12_looks_15 rfl rfl rfl ?_
        refine sw_getR (b := 3) 19 dX12_looks_16 rfl gf_RX12_18 (fun _ _ _ _ => rfl) ⟨by decide, rfl⟩ rfl ?_
        refine sw_iconst (v := zI 4) 20 dX12_looks_19 rfl (by decide) ?_
        refine sw_iload_n 21 dX12_looks_20 rfl rfl rfl ?_
        refine sw_imul 22 dX12_looks_21 rfl ?_
        refine sw_iload_n 23 dX12_looks_22 rfl rfl rfl ?_
        refine sw_iadd 24 dX12_looks_23 rfl ?_
        rw [e1]
        refine sw_iald 25 dX12_looks_24 rfl ⟨by decide, rfl⟩ (by assumption) ?_
        refine sw_iast 26 dX12_looks_25 rfl ⟨by decide, rfl⟩ (by assumption) ?_
        refine sw_iinc (v := zI 1) (lc' := [(0, _), (1, _), (2, _)]) 29 dX12_looks_26 rfl (by decide) rfl rfl rfl ?_
        refine sw_goto 2 dX12_looks_29 (by decide) ?_
        rw [zI_clampN (by omega), zI_clampN (by omega), e3, sw_wI_pI, zI_add]
        refine ih (j + 1) _ (by omega) (fun i hi => ?_)
        unfold va_up
        by_cases c : i = j
        · rw [if_pos c, c]
        · rw [if_neg c]; exact hF i (by omega)
  refine sw_iconst (v := zI 0) 1 dX12_looks_0 rfl (by decide) ?_
  refine sw_istore_n (lc' := [(0, _), (1, _), (2, _)]) 2 dX12_looks_1 rfl rfl (by decide) rfl ?_
  have g := loop σ.1.1.1 0 (h.1 9) (by omega) (fun i hi => absurd hi (Nat.not_lt_zero i))
  rw [sw_pI_self rfl] at g
  exact g
theorem m_aboveOf {n a : Nat} {p bx e : Nat → Int} {sg : Int} (V : imB h n p bx) (hn : n ≤ 4) (hp : ∀ i, i < n → 2 ≤ p i ∧ p i ≤ 31) (ra : sw_r wM a 0 4) (R : rwM h a n e) (he : ∀ i, i < n → -100 ≤ e i ∧ e i ≤ 100) (hs : sg = 1 ∨ sg = -1) : sw_ct wM X l d mX12_aboveOf [.ref 0, .ref a, .int (zI sg)] h (sw_qL wM X fun r h2 => h2 = h ∧ r = zL (sg * sideZ p e 1 n)) := by
  refine sw_ct_of (by decide +kernel) (Nat.le_of_ble_eq_true rfl) rfl ?_
  have loop : ∀ (c i : Nat), i + c = n → sw_wp wM X l d mX12_aboveOf (sw_qL wM X fun r h2 => h2 = h ∧ r = zL (sg * sideZ p e 1 n)) 6 [(0, .ref 0), (1, .ref a), (2, .int (zI sg)), (3, .long (zL (sg * sideZ p e 1 i))), (5, .int (zI i))] [] h := by
    intro c
    induction c with
    | zero =>
      intro i hi
      have : i = n := by omega
      subst this
      refine sw_iload 8 dX12_aboveOf_6 rfl rfl ?_
      refine sw_aload_n 9 dX12_aboveOf_8 rfl rfl rfl ?_
      refine sw_getI 12 dX12_aboveOf_9 rfl gf_RX12_83 rfl ⟨by decide, rfl⟩ ?_
      rw [V.1]
      refine sw_icmp_ge 50 15 dX12_aboveOf_12 (by decide) rfl (fun c12 => ?_) (fun c12 => ?_)
      · refine sw_lload_n 51 dX12_aboveOf_50 rfl rfl rfl ?_
        exact sw_lret dX12_aboveOf_51 rfl (⟨rfl, rfl⟩)
      · exact absurd (Int32.le_refl _) c12
    | succ c ih =>
      intro i hi
      have hin := zI_inN (a := i) (n := 4) (by omega) (by decide)
      have hin5 := zI_inN (a := i) (n := 5) (by omega) (by decide)
      have hr := R i (by omega)
      have hv := (V.2 i (by omega)).1
      have hb := he i (by omega)
      have hq := hp i (by omega)
      have inner : ∀ (m k : Nat), k + m = (1 * e i).toNat → sw_wp wM X l d mX12_aboveOf (sw_qL wM X fun r h2 => h2 = h ∧ r = zL (sg * sideZ p e 1 n)) 18 [(0, .ref 0), (1, .ref a), (2, .int (zI sg)), (3, .long (zL (sg * sideZ p e 1 i * p i ^ k))), (5, .int (zI i)), (6, .int (zI k))] [] h := by
        intro m
        induction m with
        | zero =>
          intro k hk
          have hk : k = (1 * e i).toNat := by omega
          refine sw_iload 20 dX12_aboveOf_18 rfl rfl ?_
          refine sw_aload_n 21 dX12_aboveOf_20 rfl rfl rfl ?_
          refine sw_iload 23 dX12_aboveOf_21 rfl rfl ?_
          refine sw_iald 24 dX12_aboveOf_23 rfl (by first | assumption | exact ⟨by decide, rfl⟩) (by assumption) ?_
          rw [zI_clampN (by omega), hr]
          refine sw_icmp_ge 44 27 dX12_aboveOf_24 (by decide) rfl (fun c24 => ?_) (fun c24 => ?_)
          · refine sw_iinc (v := zI 1) (lc' := [(0, _), (1, _), (2, _), (3, _), (5, _), (6, _)]) 47 dX12_aboveOf_44 rfl (by decide) rfl rfl rfl ?_
            refine sw_goto 6 dX12_aboveOf_47 (by decide) ?_
            rw [zI_add, hk, Int.mul_assoc, show sideZ p e 1 i * p i ^ (1 * e i).toNat = sideZ p e 1 (i + 1) from rfl]
            exact sw_wp_sub (by simp) (ih (i + 1) (by omega))
          · exact absurd (by rw [zI_le (by omega) (by omega) (by omega) (by omega)]; omega) c24
        | succ m ih2 =>
          intro k hk
          refine sw_iload 20 dX12_aboveOf_18 rfl rfl ?_
          refine sw_aload_n 21 dX12_aboveOf_20 rfl rfl rfl ?_
          refine sw_iload 23 dX12_aboveOf_21 rfl rfl ?_
          refine sw_iald 24 dX12_aboveOf_23 rfl (by first | assumption | exact ⟨by decide, rfl⟩) (by assumption) ?_
          rw [zI_clampN (by omega), hr]
          refine sw_icmp_ge 44 27 dX12_aboveOf_24 (by decide) rfl (fun c24 => ?_) (fun c24 => ?_)
          · exact absurd c24 (by rw [zI_le (by omega) (by omega) (by omega) (by omega)]; omega)
          · refine sw_lload_n 28 dX12_aboveOf_27 rfl rfl rfl ?_
            refine sw_aload_n 29 dX12_aboveOf_28 rfl rfl rfl ?_
            refine sw_getR (b := 1) 32 dX12_aboveOf_29 rfl gf_RX12_9 (fun _ _ _ _ => rfl) ⟨by decide, rfl⟩ rfl ?_
            refine sw_iload 34 dX12_aboveOf_32 rfl rfl ?_
            refine sw_iald 35 dX12_aboveOf_34 rfl ⟨by decide, rfl⟩ (by assumption) ?_
            rw [zI_clampN (by omega), hv]
            refine sw_i2l 36 dX12_aboveOf_35 rfl ?_
            rw [zI_i2l (by omega) (by omega)]
            refine sw_lmul 37 dX12_aboveOf_36 rfl ?_
            refine sw_lstore_n (lc' := [(0, _), (1, _), (2, _), (3, _), (5, _), (6, _)]) 38 dX12_aboveOf_37 rfl rfl (by decide) rfl ?_
            refine sw_iinc (v := zI 1) (lc' := [(0, _), (1, _), (2, _), (3, _), (5, _), (6, _)]) 41 dX12_aboveOf_38 rfl (by decide) rfl rfl rfl ?_
            refine sw_goto 18 dX12_aboveOf_41 (by decide) ?_
            rw [zI_add, zL_mul, Int.mul_assoc, ← Int.pow_succ]
            exact ih2 (k + 1) (by omega)
      refine sw_iload 8 dX12_aboveOf_6 rfl rfl ?_
      refine sw_aload_n 9 dX12_aboveOf_8 rfl rfl rfl ?_
      refine sw_getI 12 dX12_aboveOf_9 rfl gf_RX12_83 rfl ⟨by decide, rfl⟩ ?_
      rw [V.1]
      refine sw_icmp_ge 50 15 dX12_aboveOf_12 (by decide) rfl (fun c12 => ?_) (fun c12 => ?_)
      · exact absurd c12 (by rw [zI_le (by omega) (by omega) (by omega) (by omega)]; omega)
      · refine sw_iconst (v := zI 0) 16 dX12_aboveOf_15 rfl (by decide) ?_
        refine sw_istore (lc' := [(0, _), (1, _), (2, _), (3, _), (5, _), (6, _)]) 18 dX12_aboveOf_16 rfl (by decide) rfl ?_
        have g := inner (1 * e i).toNat 0 (by omega)
        rw [Int.pow_zero, Int.mul_one] at g
        exact g
  refine sw_iload_n 1 dX12_aboveOf_0 rfl rfl rfl ?_
  refine sw_i2l 2 dX12_aboveOf_1 rfl ?_
  rw [zI_i2l (by omega) (by omega)]
  refine sw_lstore_n (lc' := [(0, _), (1, _), (2, _), (3, _)]) 3 dX12_aboveOf_2 rfl rfl (by decide) rfl ?_
  refine sw_iconst (v := zI 0) 4 dX12_aboveOf_3 rfl (by decide) ?_
  refine sw_istore (lc' := [(0, _), (1, _), (2, _), (3, _), (5, _)]) 6 dX12_aboveOf_4 rfl (by decide) rfl ?_
  have g := loop n 0 (by omega)
  rw [show sg * sideZ p e 1 0 = sg from Int.mul_one sg] at g
  exact g
theorem m_belowOf {n a : Nat} {p bx e : Nat → Int} (V : imB h n p bx) (hn : n ≤ 4) (hp : ∀ i, i < n → 2 ≤ p i ∧ p i ≤ 31) (ra : sw_r wM a 0 4) (R : rwM h a n e) (he : ∀ i, i < n → -100 ≤ e i ∧ e i ≤ 100) : sw_ct wM X l d mX12_belowOf [.ref 0, .ref a] h (sw_qL wM X fun r h2 => h2 = h ∧ r = zL (sideZ p e (-1) n)) := by
  refine sw_ct_of (by decide +kernel) (Nat.le_of_ble_eq_true rfl) rfl ?_
  have loop : ∀ (c i : Nat), i + c = n → sw_wp wM X l d mX12_belowOf (sw_qL wM X fun r h2 => h2 = h ∧ r = zL (sideZ p e (-1) n)) 5 [(0, .ref 0), (1, .ref a), (2, .long (zL (sideZ p e (-1) i))), (4, .int (zI i))] [] h := by
    intro c
    induction c with
    | zero =>
      intro i hi
      have : i = n := by omega
      subst this
      refine sw_iload 7 dX12_belowOf_5 rfl rfl ?_
      refine sw_aload_n 8 dX12_belowOf_7 rfl rfl rfl ?_
      refine sw_getI 11 dX12_belowOf_8 rfl gf_RX12_83 rfl ⟨by decide, rfl⟩ ?_
      rw [V.1]
      refine sw_icmp_ge 49 14 dX12_belowOf_11 (by decide) rfl (fun c11 => ?_) (fun c11 => ?_)
      · refine sw_lload_n 50 dX12_belowOf_49 rfl rfl rfl ?_
        exact sw_lret dX12_belowOf_50 rfl (⟨rfl, rfl⟩)
      · exact absurd (Int32.le_refl _) c11
    | succ c ih =>
      intro i hi
      have hin := zI_inN (a := i) (n := 4) (by omega) (by decide)
      have hin5 := zI_inN (a := i) (n := 5) (by omega) (by decide)
      have hr := R i (by omega)
      have hv := (V.2 i (by omega)).1
      have hb := he i (by omega)
      have hq := hp i (by omega)
      have inner : ∀ (m k : Nat), k + m = (-1 * e i).toNat → sw_wp wM X l d mX12_belowOf (sw_qL wM X fun r h2 => h2 = h ∧ r = zL (sideZ p e (-1) n)) 17 [(0, .ref 0), (1, .ref a), (2, .long (zL (sideZ p e (-1) i * p i ^ k))), (4, .int (zI i)), (5, .int (zI (-(k : Int))))] [] h := by
        intro m
        induction m with
        | zero =>
          intro k hk
          have hk : k = (-1 * e i).toNat := by omega
          refine sw_iload 19 dX12_belowOf_17 rfl rfl ?_
          refine sw_aload_n 20 dX12_belowOf_19 rfl rfl rfl ?_
          refine sw_iload 22 dX12_belowOf_20 rfl rfl ?_
          refine sw_iald 23 dX12_belowOf_22 rfl (by first | assumption | exact ⟨by decide, rfl⟩) (by assumption) ?_
          rw [zI_clampN (by omega), hr]
          refine sw_icmp_le 43 26 dX12_belowOf_23 (by decide) rfl (fun c23 => ?_) (fun c23 => ?_)
          · refine sw_iinc (v := zI 1) (lc' := [(0, _), (1, _), (2, _), (4, _), (5, _)]) 46 dX12_belowOf_43 rfl (by decide) rfl rfl rfl ?_
            refine sw_goto 5 dX12_belowOf_46 (by decide) ?_
            rw [zI_add, hk, show sideZ p e (-1) i * p i ^ (-1 * e i).toNat = sideZ p e (-1) (i + 1) from rfl]
            exact sw_wp_sub (by simp) (ih (i + 1) (by omega))
          · exact absurd (by rw [zI_le (by omega) (by omega) (by omega) (by omega)]; omega) c23
        | succ m ih2 =>
          intro k hk
          refine sw_iload 19 dX12_belowOf_17 rfl rfl ?_
          refine sw_aload_n 20 dX12_belowOf_19 rfl rfl rfl ?_
          refine sw_iload 22 dX12_belowOf_20 rfl rfl ?_
          refine sw_iald 23 dX12_belowOf_22 rfl (by first | assumption | exact ⟨by decide, rfl⟩) (by assumption) ?_
          rw [zI_clampN (by omega), hr]
          refine sw_icmp_le 43 26 dX12_belowOf_23 (by decide) rfl (fun c23 => ?_) (fun c23 => ?_)
          · exact absurd c23 (by rw [zI_le (by omega) (by omega) (by omega) (by omega)]; omega)
          · refine sw_lload_n 27 dX12_belowOf_26 rfl rfl rfl ?_
            refine sw_aload_n 28 dX12_belowOf_27 rfl rfl rfl ?_
            refine sw_getR (b := 1) 31 dX12_belowOf_28 rfl gf_RX12_9 (fun _ _ _ _ => rfl) ⟨by decide, rfl⟩ rfl ?_
            refine sw_iload 33 dX12_belowOf_31 rfl rfl ?_
            refine sw_iald 34 dX12_belowOf_33 rfl ⟨by decide, rfl⟩ (by assumption) ?_
            rw [zI_clampN (by omega), hv]
            refine sw_i2l 35 dX12_belowOf_34 rfl ?_
            rw [zI_i2l (by omega) (by omega)]
            refine sw_lmul 36 dX12_belowOf_35 rfl ?_
            refine sw_lstore_n (lc' := [(0, _), (1, _), (2, _), (4, _), (5, _)]) 37 dX12_belowOf_36 rfl rfl (by decide) rfl ?_
            refine sw_iinc (v := zI (-1)) (lc' := [(0, _), (1, _), (2, _), (4, _), (5, _)]) 40 dX12_belowOf_37 rfl (by decide) rfl rfl rfl ?_
            refine sw_goto 17 dX12_belowOf_40 (by decide) ?_
            rw [zI_add, zL_mul, Int.mul_assoc, ← Int.pow_succ, show -(k : Int) + -1 = -((k + 1 : Nat) : Int) by omega]
            exact ih2 (k + 1) (by omega)
      refine sw_iload 7 dX12_belowOf_5 rfl rfl ?_
      refine sw_aload_n 8 dX12_belowOf_7 rfl rfl rfl ?_
      refine sw_getI 11 dX12_belowOf_8 rfl gf_RX12_83 rfl ⟨by decide, rfl⟩ ?_
      rw [V.1]
      refine sw_icmp_ge 49 14 dX12_belowOf_11 (by decide) rfl (fun c11 => ?_) (fun c11 => ?_)
      · exact absurd c11 (by rw [zI_le (by omega) (by omega) (by omega) (by omega)]; omega)
      · refine sw_iconst (v := zI 0) 15 dX12_belowOf_14 rfl (by decide) ?_
        refine sw_istore (lc' := [(0, _), (1, _), (2, _), (4, _), (5, _)]) 17 dX12_belowOf_15 rfl (by decide) rfl ?_
        have g := inner (-1 * e i).toNat 0 (by omega)
        rw [Int.pow_zero, Int.mul_one] at g
        exact g
  refine sw_lconst (v := zL 1) 1 dX12_belowOf_0 rfl (by decide) ?_
  refine sw_lstore_n (lc' := [(0, _), (1, _), (2, _)]) 2 dX12_belowOf_1 rfl rfl (by decide) rfl ?_
  refine sw_iconst (v := zI 0) 3 dX12_belowOf_2 rfl (by decide) ?_
  refine sw_istore (lc' := [(0, _), (1, _), (2, _), (4, _)]) 5 dX12_belowOf_3 rfl (by decide) rfl ?_
  exact loop n 0 (by omega)
theorem m_isInBox {n a : Nat} {p bx e : Nat → Int} (V : imB h n p bx) (hn : n ≤ 4) (hb : ∀ i, i < n → 0 ≤ bx i ∧ bx i ≤ 4) (ra : sw_r wM a 0 4) (R : rwM h a n e) (he : ∀ i, i < n → -100 ≤ e i ∧ e i ≤ 100) : sw_ct wM X l (d + 1) mX12_isInBox [.ref 0, .ref a] h (sw_qI wM X fun r h2 => h2 = h ∧ r = bI (inBoxZ e bx n 0)) := by
  refine sw_ct_of (by decide +kernel) (Nat.le_of_ble_eq_true rfl) rfl ?_
  have loop : ∀ (c i : Nat), i + c = n → inBoxZ e bx c i = inBoxZ e bx n 0 → sw_wp wM X l (d + 1) mX12_isInBox (sw_qI wM X fun r h2 => h2 = h ∧ r = bI (inBoxZ e bx n 0)) 2 [(0, .ref 0), (1, .ref a), (2, .int (zI i))] [] h := by
    intro c
    induction c with
    | zero =>
      intro i hi hz
      have : i = n := by omega
      subst this
      refine sw_iload_n 3 dX12_isInBox_2 rfl rfl rfl ?_
      refine sw_aload_n 4 dX12_isInBox_3 rfl rfl rfl ?_
      refine sw_getI 7 dX12_isInBox_4 rfl gf_RX12_83 rfl ⟨by decide, rfl⟩ ?_
      rw [V.1]
      refine sw_icmp_ge 40 10 dX12_isInBox_7 (by decide) rfl (fun c7 => ?_) (fun c7 => ?_)
      · refine sw_iconst (v := zI 1) 41 dX12_isInBox_40 rfl (by decide) ?_
        exact sw_zret (by first | exact Or.inl rfl | exact Or.inr rfl | assumption) dX12_isInBox_41 rfl (⟨rfl, by rw [← hz]; rfl⟩)
      · exact absurd (Int32.le_refl _) c7
    | succ c ih =>
      intro i hi hz
      have hin := zI_inN (a := i) (n := 4) (by omega) (by decide)
      have hin5 := zI_inN (a := i) (n := 5) (by omega) (by decide)
      have hr := R i (by omega)
      have hv := (V.2 i (by omega)).2
      have hb1 := he i (by omega)
      have hq := hb i (by omega)
      have le : inBoxZ e bx (c + 1) i = if (e i).natAbs ≤ bx i then inBoxZ e bx c (i + 1) else false := rfl
      refine sw_iload_n 3 dX12_isInBox_2 rfl rfl rfl ?_
      refine sw_aload_n 4 dX12_isInBox_3 rfl rfl rfl ?_
      refine sw_getI 7 dX12_isInBox_4 rfl gf_RX12_83 rfl ⟨by decide, rfl⟩ ?_
      rw [V.1]
      refine sw_icmp_ge 40 10 dX12_isInBox_7 (by decide) rfl (fun c7 => ?_) (fun c7 => ?_)
      · exact absurd c7 (by rw [zI_le (by omega) (by omega) (by omega) (by omega)]; omega)
      · refine sw_aload_n 11 dX12_isInBox_10 rfl rfl rfl ?_
        refine sw_iload_n 12 dX12_isInBox_11 rfl rfl rfl ?_
        refine sw_iald 13 dX12_isInBox_12 rfl (by first | assumption | exact ⟨by decide, rfl⟩) (by assumption) ?_
        rw [zI_clampN (by omega), hr]
        refine sw_aload_n 14 dX12_isInBox_13 rfl rfl rfl ?_
        refine sw_getR (b := 2) 17 dX12_isInBox_14 rfl gf_RX12_15 (fun _ _ _ _ => rfl) ⟨by decide, rfl⟩ rfl ?_
        refine sw_iload_n 18 dX12_isInBox_17 rfl rfl rfl ?_
        refine sw_iald 19 dX12_isInBox_18 rfl ⟨by decide, rfl⟩ (by assumption) ?_
        rw [zI_clampN (by omega), hv]
        refine sw_ineg 20 dX12_isInBox_19 rfl ?_
        rw [zI_neg]
        refine sw_aload_n 21 dX12_isInBox_20 rfl rfl rfl ?_
        refine sw_getR (b := 2) 24 dX12_isInBox_21 rfl gf_RX12_15 (fun _ _ _ _ => rfl) ⟨by decide, rfl⟩ rfl ?_
        refine sw_iload_n 25 dX12_isInBox_24 rfl rfl rfl ?_
        refine sw_iald 26 dX12_isInBox_25 rfl ⟨by decide, rfl⟩ (by assumption) ?_
        rw [zI_clampN (by omega), hv]
        refine sw_invSI 29 dX12_isInBox_26 rfl lk_RX12_87 (c_in (by omega) (by omega) (by omega) (by omega) (by omega) (by omega)) rfl rfl (Nat.le_of_ble_eq_true rfl) (fun r26 h26 hq26 => ?_)
        obtain ⟨rfl, rfl⟩ := hq26
        refine sw_if_ne 34 32 dX12_isInBox_29 (by decide) rfl (fun c29 => ?_) (fun c29 => ?_)
        · rw [ifz_eq, Decidable.not_not] at c29
          refine sw_iinc (v := zI 1) (lc' := [(0, _), (1, _), (2, _)]) 37 dX12_isInBox_34 rfl (by decide) rfl rfl rfl ?_
          refine sw_goto 2 dX12_isInBox_37 (by decide) ?_
          rw [zI_add]
          exact ih (i + 1) (by omega) (by rw [← hz, le, if_pos (by omega)])
        · rw [ifz_eq] at c29
          refine sw_iconst (v := zI 0) 33 dX12_isInBox_32 rfl (by decide) ?_
          exact sw_zret (by first | exact Or.inl rfl | exact Or.inr rfl | assumption) dX12_isInBox_33 rfl (⟨rfl, by rw [← hz, le, if_neg (by omega)]; rfl⟩)
  refine sw_iconst (v := zI 0) 1 dX12_isInBox_0 rfl (by decide) ?_
  refine sw_istore_n (lc' := [(0, _), (1, _), (2, _)]) 2 dX12_isInBox_1 rfl rfl (by decide) rfl ?_
  exact loop n 0 (by omega) rfl
theorem m_heightOf {n a : Nat} {p bx e : Nat → Int} (V : imB h n p bx) (hn : n ≤ 4) (ra : sw_r wM a 0 4) (R : rwM h a n e) (he : ∀ i, i < n → -1000 ≤ e i ∧ e i ≤ 1000) : sw_ct wM X l (d + 1) mX12_heightOf [.ref 0, .ref a] h (sw_qI wM X fun r h2 => h2 = h ∧ r = zI (topZ e n)) := by
  refine sw_ct_of (by decide +kernel) (Nat.le_of_ble_eq_true rfl) rfl ?_
  have loop : ∀ (c i : Nat), i + c = n → sw_wp wM X l (d + 1) mX12_heightOf (sw_qI wM X fun r h2 => h2 = h ∧ r = zI (topZ e n)) 4 [(0, .ref 0), (1, .ref a), (2, .int (zI (topZ e i))), (3, .int (zI i))] [] h := by
    intro c
    induction c with
    | zero =>
      intro i hi
      have : i = n := by omega
      subst this
      refine sw_iload_n 5 dX12_heightOf_4 rfl rfl rfl ?_
      refine sw_aload_n 6 dX12_heightOf_5 rfl rfl rfl ?_
      refine sw_getI 9 dX12_heightOf_6 rfl gf_RX12_83 rfl ⟨by decide, rfl⟩ ?_
      rw [V.1]
      refine sw_icmp_ge 33 12 dX12_heightOf_9 (by decide) rfl (fun c9 => ?_) (fun c9 => ?_)
      · refine sw_iload_n 34 dX12_heightOf_33 rfl rfl rfl ?_
        exact sw_iret dX12_heightOf_34 rfl (⟨rfl, rfl⟩)
      · exact absurd (Int32.le_refl _) c9
    | succ c ih =>
      intro i hi
      have hin := zI_inN (a := i) (n := 4) (by omega) (by decide)
      have hr := R i (by omega)
      have hb1 := he i (by omega)
      have tb := topZ_b (e := e) (B := 1000) i (fun j hj => by have := he j (by omega); omega)
      have le : topZ e (i + 1) = max (topZ e i) (e i).natAbs := rfl
      refine sw_iload_n 5 dX12_heightOf_4 rfl rfl rfl ?_
      refine sw_aload_n 6 dX12_heightOf_5 rfl rfl rfl ?_
      refine sw_getI 9 dX12_heightOf_6 rfl gf_RX12_83 rfl ⟨by decide, rfl⟩ ?_
      rw [V.1]
      refine sw_icmp_ge 33 12 dX12_heightOf_9 (by decide) rfl (fun c9 => ?_) (fun c9 => ?_)
      · exact absurd c9 (by rw [zI_le (by omega) (by omega) (by omega) (by omega)]; omega)
      · refine sw_iload_n 13 dX12_heightOf_12 rfl rfl rfl ?_
        refine sw_aload_n 14 dX12_heightOf_13 rfl rfl rfl ?_
        refine sw_iload_n 15 dX12_heightOf_14 rfl rfl rfl ?_
        refine sw_iald 16 dX12_heightOf_15 rfl (by first | assumption | exact ⟨by decide, rfl⟩) (by assumption) ?_
        rw [zI_clampN (by omega), hr]
        refine sw_aload_n 17 dX12_heightOf_16 rfl rfl rfl ?_
        refine sw_iload_n 18 dX12_heightOf_17 rfl rfl rfl ?_
        refine sw_iald 19 dX12_heightOf_18 rfl (by first | assumption | exact ⟨by decide, rfl⟩) (by assumption) ?_
        rw [zI_clampN (by omega), hr]
        refine sw_ineg 20 dX12_heightOf_19 rfl ?_
        rw [zI_neg]
        refine sw_invSI 23 dX12_heightOf_20 rfl lk_RX12_141 (c_maxZ (by omega) (by omega) (by omega) (by omega)) rfl rfl (Nat.le_of_ble_eq_true rfl) (fun r20 h20 hq20 => ?_)
        obtain ⟨rfl, rfl⟩ := hq20
        refine sw_invSI 26 dX12_heightOf_23 rfl lk_RX12_141 (c_maxZ (by omega) (by omega) (by omega) (by omega)) rfl rfl (Nat.le_of_ble_eq_true rfl) (fun r23 h23 hq23 => ?_)
        obtain ⟨rfl, rfl⟩ := hq23
        refine sw_istore_n (lc' := [(0, _), (1, _), (2, _), (3, _)]) 27 dX12_heightOf_26 rfl rfl (by decide) rfl ?_
        refine sw_iinc (v := zI 1) (lc' := [(0, _), (1, _), (2, _), (3, _)]) 30 dX12_heightOf_27 rfl (by decide) rfl rfl rfl ?_
        refine sw_goto 4 dX12_heightOf_30 (by decide) ?_
        rw [zI_add, show max (topZ e i) (max (e i) (-e i)) = topZ e (i + 1) by rw [le]; omega]
        exact ih (i + 1) (by omega)
  refine sw_iconst (v := zI 0) 1 dX12_heightOf_0 rfl (by decide) ?_
  refine sw_istore_n (lc' := [(0, _), (1, _), (2, _)]) 2 dX12_heightOf_1 rfl rfl (by decide) rfl ?_
  refine sw_iconst (v := zI 0) 3 dX12_heightOf_2 rfl (by decide) ?_
  refine sw_istore_n (lc' := [(0, _), (1, _), (2, _), (3, _)]) 4 dX12_heightOf_3 rfl rfl (by decide) rfl ?_
  exact loop n 0 (by omega)
theorem topZ_ext {e : Nat → Int} {n : Nat} : ∀ m, (∀ i, n ≤ i → i < n + m → e i = 0) → topZ e (n + m) = topZ e n
  | 0, _ => rfl
  | m + 1, h => by
    have h1 := topZ_ext m (fun i h1 h2 => h i h1 (by omega))
    have h2 := h (n + m) (by omega) (by omega)
    have h3 : ∀ k, 0 ≤ topZ e k := fun k => by
      induction k with
      | zero => exact Int.le_refl _
      | succ k ih => unfold topZ; omega
    show max (topZ e (n + m)) (e (n + m)).natAbs = _
    rw [h1, h2]
    have := h3 n
    omega
theorem top4 (K : okS σ) {s : Nat} (hs : s < 4) : topZ (σ.1.2.1.2 s) 4 = topZ (σ.1.2.1.2 s) σ.1.1.1 := by
  have hn := K.1.1.1
  have := topZ_ext (e := σ.1.2.1.2 s) (n := σ.1.1.1) (4 - σ.1.1.1) (fun i h1 h2 => ((K.1.2.1 s hs).2 i (by omega)).2.2 h1)
  rw [show σ.1.1.1 + (4 - σ.1.1.1) = 4 by omega] at this
  exact this
theorem m_gets (K : okS σ) (I : IM h σ) {s a : Nat} {x : Int} {e : Nat → Int} (hs : s < 4) (ra : sw_r wM a 0 4) (a0 : a ≠ 0) (a3 : a ∉ [3, 4]) (R : rwM h a σ.1.1.1 e) : sw_ct wM X l d mX12_gets [.ref 0, .int (zI s), .ref a, .int (zI x)] h (sw_qV wM X fun h2 => IM h2 (setSh σ s x e) ∧ frM [3, 4] [] h h2) := by
  have hn := K.1.1.1
  refine sw_ct_of (by decide +kernel) (Nat.le_of_ble_eq_true rfl) rfl ?_
  generalize hQ : (sw_qV wM X fun h2 => IM h2 (setSh σ s x e) ∧ frM [3, 4] [] h h2) = Qc
  have loop : ∀ (c j : Nat) (F : Nat → Int32), j + c = σ.1.1.1 → (∀ t, t < 4 → ∀ i, i < σ.1.1.1 → F (4 * t + i) = if t = s ∧ i < j then zI (e i) else zI (σ.1.2.1.2 t i)) → sw_wp wM X l d mX12_gets Qc 3 [(0, .ref 0), (1, .int (zI s)), (2, .ref a), (3, .int (zI x)), (4, .int (zI j))] [] (sw_pI h 3 F) := by
    intro c
    have e0 : ∀ F, (sw_pI h 3 F).1 0 0 = zI σ.1.1.1 := fun F => by rw [sw_pI_ne (by decide)]; exact I.1.1
    induction c with
    | zero =>
      intro j F hj hF
      have : j = σ.1.1.1 := by omega
      subst this
      have hin := zI_inN (a := s) (n := 4) hs (by decide)
      subst hQ
      refine sw_iload 5 dX12_gets_3 rfl rfl ?_
      refine sw_aload_n 6 dX12_gets_5 rfl rfl rfl ?_
      refine sw_getI 9 dX12_gets_6 rfl gf_RX12_83 rfl ⟨by decide, rfl⟩ ?_
      rw [e0]
      refine sw_icmp_ge 33 12 dX12_gets_9 (by decide) rfl (fun c9 => ?_) (fun c9 => ?_)
      · refine sw_aload_n 34 dX12_gets_33 rfl rfl rfl ?_
        refine sw_getR (b := 4) 37 dX12_gets_34 rfl gf_RX12_21 (fun _ _ _ _ => rfl) ⟨by decide, rfl⟩ rfl ?_
        refine sw_iload_n 38 dX12_gets_37 rfl rfl rfl ?_
        refine sw_iload_n 39 dX12_gets_38 rfl rfl rfl ?_
        refine sw_iast 40 dX12_gets_39 rfl ⟨by decide, rfl⟩ (by assumption) ?_
        exact sw_vret dX12_gets_40 rfl (by
  rw [zI_clampN (by omega)]
  have A : frM [3, 4] [] h (sw_wI (sw_pI h 3 F) 4 s (zI x)) := frM_tr (frM_pI (by decide) (by decide)) (frM_wI (by decide) (by decide))
  refine ⟨frM_I A I rfl (by decide) (by decide) (imB_fr I.1 A (by decide) (by decide) (by decide)) (fun t ht => ?_) ⟨by rw [A.2.2 5 (by decide)]; exact I.2.2.1.1, fun i hi => by rw [A.1 5 (by decide) (by decide)]; exact I.2.2.1.2 i hi⟩, A⟩
  show _ = zI (va_up σ.1.2.1.1 s x t) ∧ ∀ i, i < σ.1.1.1 → _ = zI (va_up σ.1.2.1.2 s e t i)
  rw [sw_wI_at, sw_wI_ne (by decide), sw_pI_at, sw_pI_ne (by decide)]
  unfold va_up
  by_cases c : t = s
  · rw [if_pos c, if_pos c, if_pos c]
    exact ⟨rfl, fun i hi => by rw [hF t ht i hi, if_pos ⟨c, hi⟩]⟩
  · rw [if_neg c, if_neg c, if_neg c]
    exact ⟨(I.2.1 t ht).1, fun i hi => by rw [hF t ht i hi, if_neg (fun hh => c hh.1)]⟩)
      · exact absurd (Int32.le_refl _) c9
    | succ c ih =>
      intro j F hj hF
      have e1 : zI 4 * zI s + zI j = zI ((4 * s + j : Nat) : Int) := by rw [zI_mul, zI_add]; rfl
      have hin1 := zI_inN (a := 4 * s + j) (n := 20) (by omega) (by decide)
      have hin2 := zI_inN (a := j) (n := 4) (by omega) (by decide)
      have e3 : (sw_pI h 3 F).1 a j = zI (e j) := by rw [sw_pI_ne (fun e => a3 (by rw [e]; decide))]; exact R j (by omega)
      refine sw_iload 5 dX12_gets_3 rfl rfl ?_
      refine sw_aload_n 6 dX12_gets_5 rfl rfl rfl ?_
      refine sw_getI 9 dX12_gets_6 rfl gf_RX12_83 rfl ⟨by decide, rfl⟩ ?_
      rw [e0]
      refine sw_icmp_ge 33 12 dX12_gets_9 (by decide) rfl (fun c9 => ?_) (fun c9 => ?_)
      · exact absurd c9 (by rw [zI_le (by omega) (by omega) (by omega) (by omega)]; omega)
      · refine sw_aload_n 13 dX12_gets_12 rfl rfl rfl ?_
        refine sw_getR (b := 3) 16 dX12_gets_13 rfl gf_RX12_18 (fun _ _ _ _ => rfl) ⟨by decide, rfl⟩ rfl ?_
        refine sw_iconst (v := zI 4) 17 dX12_gets_16 rfl (by decide) ?_
        refine sw_iload_n 18 dX12_gets_17 rfl rfl rfl ?_
        refine sw_imul 19 dX12_gets_18 rfl ?_
        refine sw_iload 21 dX12_gets_19 rfl rfl ?_
        refine sw_iadd 22 dX12_gets_21 rfl ?_
        rw [e1]
        refine sw_aload_n 23 dX12_gets_22 rfl rfl rfl ?_
        refine sw_iload 25 dX12_gets_23 rfl rfl ?_
        refine sw_iald 26 dX12_gets_25 rfl (by first | assumption | exact ⟨by decide, rfl⟩) (by assumption) ?_
        refine sw_iast 27 dX12_gets_26 rfl ⟨by decide, rfl⟩ (by assumption) ?_
        refine sw_iinc (v := zI 1) (lc' := [(0, _), (1, _), (2, _), (3, _), (4, _)]) 30 dX12_gets_27 rfl (by decide) rfl rfl rfl ?_
        refine sw_goto 3 dX12_gets_30 (by decide) ?_
        rw [zI_clampN (by omega), zI_clampN (by omega), e3, sw_wI_pI, zI_add]
        refine ih (j + 1) _ (by omega) (fun t ht i hi => ?_)
        unfold va_up
        by_cases c : 4 * t + i = 4 * s + j
        · have et : t = s := by omega
          have ei : i = j := by omega
          rw [if_pos c, if_pos ⟨et, by omega⟩, ei]
        · rw [if_neg c, hF t ht i hi]
          by_cases c2 : t = s ∧ i < j
          · rw [if_pos c2, if_pos ⟨c2.1, by omega⟩]
          · rw [if_neg c2, if_neg (by omega)]
  refine sw_iconst (v := zI 0) 1 dX12_gets_0 rfl (by decide) ?_
  refine sw_istore (lc' := [(0, _), (1, _), (2, _), (3, _), (4, _)]) 3 dX12_gets_1 rfl (by decide) rfl ?_
  have g := loop σ.1.1.1 0 (h.1 3) (by omega) (fun t ht i hi => by rw [if_neg (by omega)]; exact (I.2.1 t ht).2 i hi)
  rw [sw_pI_self rfl] at g
  exact g
end sw_m4
