/-! THE REFERENCE, 8: tape, lists, image, count -/
theorem IM_ls {h h2 : sw_H} {σ τ : SgZ} {L F : List Nat} (A : frM L F h h2) (I : IM h σ) (e1 : σ.1 = τ.1) (e2 : σ.2.1 = τ.2.1) (hL : ∀ a ∈ [1, 2, 3, 4, 5, 23], a ∉ L) (hF : ∀ k ∈ [0, 5, 32], k ∉ F) (t : imT h2 τ.2.2.1) (l : imL h2 τ.2.2.2) : IM h2 τ := by
  obtain ⟨i1, i2, i3, i4, i5, i6⟩ := I
  rw [e1] at i1 i2 i3
  rw [e2] at i4
  have B : ∀ a, a ≠ 0 → a ∈ [1, 2, 3, 4, 5, 23] → h2.1 a = h.1 a := fun a h0 ha => A.1 a h0 (hL a ha)
  have Z : ∀ k, k ∈ [0, 5, 32] → h2.1 0 k = h.1 0 k := fun k hk => A.2.2 k (hF k hk)
  refine ⟨⟨by rw [Z 0 (by decide)]; exact i1.1, fun i hi => by rw [B 1 (by decide) (by decide), B 2 (by decide) (by decide)]; exact i1.2 i hi⟩, fun s hs => by rw [B 4 (by decide) (by decide), B 3 (by decide) (by decide)]; exact i2 s hs, ⟨by rw [Z 5 (by decide)]; exact i3.1, fun i hi => by rw [B 5 (by decide) (by decide)]; exact i3.2 i hi⟩, ?_, t, l⟩
  rcases i4 with ⟨z1, z2⟩ | ⟨E, z1, z2, z3⟩
  · exact Or.inl ⟨z1, by rw [Z 32 (by decide)]; exact z2⟩
  · exact Or.inr ⟨E, z1, by rw [Z 32 (by decide)]; exact z2, by unfold imE; rw [B 23 (by decide) (by decide)]; exact z3⟩
section sw_m8
variable {X : sw_X} {l : Launch} {d : Nat} {h : sw_H} {σ : SgZ}
theorem m_feed (K : okS σ) (I : IM h σ) {b : Int} (b1 : -2147483648 ≤ b) (b2 : b < 2147483648) : sw_ct wM X l (d + 1) mX12_feed [.ref 0, .int (zI b)] h (sw_qI wM X fun r h2 => IM h2 (opFeed σ b).2 ∧ r = zI (opFeed σ b).1) := by
  have hT := K.2.2.1.1
  have t1 := I.2.2.2.2.1.1
  refine sw_ct_of (by decide +kernel) (Nat.le_of_ble_eq_true rfl) rfl ?_
  refine sw_iload_n 1 dX12_feed_0 rfl rfl rfl ?_
  refine sw_bipush (v := zI 32) 3 dX12_feed_1 rfl (by decide) ?_
  refine sw_bipush (v := zI 126) 5 dX12_feed_3 rfl (by decide) ?_
  refine sw_invSI 8 dX12_feed_5 rfl lk_RX12_87 (c_in b1 b2 (by decide) (by decide) (by decide) (by decide)) rfl rfl (Nat.le_of_ble_eq_true rfl) (fun r5 h5 hq5 => ?_)
  obtain ⟨rfl, rfl⟩ := hq5
  refine sw_if_ne 14 11 dX12_feed_8 (by decide) rfl (fun c8 => ?_) (fun c8 => ?_)
  · rw [ifz_eq, Decidable.not_not] at c8
    refine sw_aload_n 15 dX12_feed_14 rfl rfl rfl ?_
    refine sw_getI 18 dX12_feed_15 rfl gf_RX12_225 rfl ⟨by decide, rfl⟩ ?_
    refine sw_bipush (v := zI 60) 20 dX12_feed_18 rfl (by decide) ?_
    rw [t1]
    refine sw_icmp_ne 26 23 dX12_feed_20 (by decide) rfl (fun c20 => ?_) (fun c20 => ?_)
    · rw [zI_eq (by omega) (by omega) (by omega) (by omega)] at c20
      refine sw_aload_n 27 dX12_feed_26 rfl rfl rfl ?_
      refine sw_getR (b := 6) 30 dX12_feed_27 rfl gf_RX12_27 (fun _ _ _ _ => rfl) ⟨by decide, rfl⟩ rfl ?_
      refine sw_aload_n 31 dX12_feed_30 rfl rfl rfl ?_
      refine sw_getI 34 dX12_feed_31 rfl gf_RX12_225 rfl ⟨by decide, rfl⟩ ?_
      refine sw_iload_n 35 dX12_feed_34 rfl rfl rfl ?_
      refine sw_iast 36 dX12_feed_35 rfl ⟨by decide, rfl⟩ (by rw [t1]; exact zI_inN (by omega) (by decide)) ?_
      rw [t1, zI_clampN (by omega)]
      refine sw_aload_n 37 dX12_feed_36 rfl rfl rfl ?_
      refine sw_dup 38 dX12_feed_37 rfl rfl ?_
      refine sw_getI 41 dX12_feed_38 rfl gf_RX12_225 rfl ⟨by decide, rfl⟩ ?_
      rw [sw_wI_ne (by decide), t1]
      refine sw_iconst (v := zI 1) 42 dX12_feed_41 rfl (by decide) ?_
      refine sw_iadd 43 dX12_feed_42 rfl ?_
      rw [zI_add]
      refine sw_putI 46 dX12_feed_43 rfl pf_RX12_225 rfl ⟨by decide, rfl⟩ ?_
      refine sw_aload_n 47 dX12_feed_46 rfl rfl rfl ?_
      refine sw_getI 50 dX12_feed_47 rfl gf_RX12_225 rfl ⟨by decide, rfl⟩ ?_
      exact sw_iret dX12_feed_50 rfl (by
  have e8 : (sw_wI (sw_wI h5 6 σ.2.2.1.1 (zI b)) 0 8 (zI (σ.2.2.1.1 + 1))).1 0 8 = zI ((σ.2.2.1.1 + 1 : Nat) : Int) := by rw [sw_wI_at]; simp [va_up]
  unfold opFeed; rw [if_neg (by omega), if_pos (by omega)]
  refine ⟨IM_ls (L := [6]) (F := [8]) (frM_tr (frM_wI (by decide) (by decide)) (frM_w0 (by decide))) I rfl rfl (by decide) (by decide) ⟨e8, fun i hi => ?_⟩ (fun j hj => ?_), e8⟩
  · rw [sw_wI_ne (by decide), sw_wI_at]
    show va_up (h5.1 6) σ.2.2.1.1 (zI b) i = zI (va_up σ.2.2.1.2 σ.2.2.1.1 b i)
    have hi : i < σ.2.2.1.1 + 1 := hi
    unfold va_up
    by_cases c : i = σ.2.2.1.1
    · rw [if_pos c, if_pos c]
    · rw [if_neg c, if_neg c]; exact I.2.2.2.2.1.2 i (by omega)
  · rw [sw_wI_ne (by decide), sw_wI_ne (by decide)]; exact I.2.2.2.2.2 j hj)
    · rw [zI_eq (by omega) (by omega) (by omega) (by omega)] at c20
      refine sw_bipush (v := zI (-4)) 25 dX12_feed_23 rfl (by decide) ?_
      exact sw_iret dX12_feed_25 rfl (by unfold opFeed; rw [if_neg (by omega), if_neg (by omega)]; exact ⟨I, rfl⟩)
  · rw [ifz_eq] at c8
    refine sw_bipush (v := zI (-2)) 13 dX12_feed_11 rfl (by decide) ?_
    exact sw_iret dX12_feed_13 rfl (by unfold opFeed; rw [if_pos (by omega)]; exact ⟨I, rfl⟩)
theorem m_wipe (K : okS σ) (I : IM h σ) : sw_ct wM X l d mX12_wipe [.ref 0] h (sw_qI wM X fun r h2 => IM h2 (opWipe σ).2 ∧ r = zI (opWipe σ).1) := by
  refine sw_ct_of (by decide +kernel) (Nat.le_of_ble_eq_true rfl) rfl ?_
  refine sw_aload_n 1 dX12_wipe_0 rfl rfl rfl ?_
  refine sw_getI 4 dX12_wipe_1 rfl gf_RX12_225 rfl ⟨by decide, rfl⟩ ?_
  refine sw_istore_n (lc' := [(0, _), (1, _)]) 5 dX12_wipe_4 rfl rfl (by decide) rfl ?_
  refine sw_aload_n 6 dX12_wipe_5 rfl rfl rfl ?_
  refine sw_iconst (v := zI 0) 7 dX12_wipe_6 rfl (by decide) ?_
  refine sw_putI 10 dX12_wipe_7 rfl pf_RX12_225 rfl ⟨by decide, rfl⟩ ?_
  refine sw_iload_n 11 dX12_wipe_10 rfl rfl rfl ?_
  exact sw_iret dX12_wipe_11 rfl (by
  refine ⟨IM_ls (L := []) (F := [8]) (frM_w0 (by decide)) I rfl rfl (by decide) (by decide) ⟨by show _ = zI ((0 : Nat) : Int); rw [sw_wI_at]; simp [va_up], fun i hi => absurd hi (Nat.not_lt_zero i)⟩ (fun j hj => ?_), I.2.2.2.2.1.1⟩
  rw [sw_wI_ne (by decide)]; exact I.2.2.2.2.2 j hj)
theorem m_list (K : okS σ) (I : IM h σ) {j n : Int} (s1 : -2147483648 ≤ j) (s2 : j < 2147483648) (i1 : -2147483648 ≤ n) (i2 : n < 2147483648) : sw_ct wM X l (d + 2) mX12_list [.ref 0, .int (zI j), .int (zI n)] h (sw_qI wM X fun r h2 => IM h2 (opList σ j n).2 ∧ r = zI (opList σ j n).1) := by
  refine sw_ct_of (by decide +kernel) (Nat.le_of_ble_eq_true rfl) rfl ?_
  generalize hQ : (sw_qI wM X fun r h2 => IM h2 (opList σ j n).2 ∧ r = zI (opList σ j n).1) = Qc
  have loop : ∀ a : Nat, j = (a : Nat) → a < 3 → -1 ≤ n → n ≤ 20 → ∀ (c k : Nat) (F : Nat → Int64), ((k : Int) + c = n ∨ (c = 0 ∧ k = 0 ∧ n = -1)) → (∀ i, i < k → F (20 * a + i) = zL 0) → (∀ i, (∀ t, t < k → i ≠ 20 * a + t) → F i = h.2 8 i) → sw_wp wM X l (d + 2) mX12_list Qc 35 [(0, .ref 0), (1, .int (zI j)), (2, .int (zI n)), (3, .int (zI k))] [] (sw_wI (sw_pL h 8 F) 7 a (zI n)) := by
    intro a ja ha n1 n2 c
    induction c with
    | zero =>
      intro k F hk hF hG
      subst hQ
      refine sw_iload_n 36 dX12_list_35 rfl rfl rfl ?_
      refine sw_iload_n 37 dX12_list_36 rfl rfl rfl ?_
      refine sw_icmp_ge 58 40 dX12_list_37 (by decide) rfl (fun c37 => ?_) (fun c37 => ?_)
      · refine sw_iconst (v := zI 1) 59 dX12_list_58 rfl (by decide) ?_
        exact sw_iret dX12_list_59 rfl (by
  unfold opList; rw [ja, if_pos (by omega), if_neg (by omega), if_neg (by omega)]; simp only [Int.toNat_natCast]
  have A : frM [7, 8] [] h (sw_wI (sw_pL h 8 F) 7 a (zI n)) := ⟨fun b h1 h2 => sw_wI_ne (fun e => h2 (by rw [e]; decide)), fun b hb => sw_pL_ne (fun e => hb (by rw [e]; decide)), fun k _ => by rw [sw_wI_ne (by decide)]; rfl⟩
  refine ⟨IM_ls A I rfl rfl (by decide) (by decide) ⟨by rw [A.2.2 8 (by decide)]; exact I.2.2.2.2.1.1, fun i hi => by rw [A.1 6 (by decide) (by decide)]; exact I.2.2.2.2.1.2 i hi⟩ (fun t ht => ?_), by first | rfl | trivial⟩
  show _ = zI (va_up σ.2.2.2.1 a n t) ∧ ∀ i : Nat, (i : Int) < va_up σ.2.2.2.1 a n t → _ = va_up σ.2.2.2.2 a (fun _ => zL 0) t i
  have it := I.2.2.2.2.2 t ht
  rw [sw_wI_at]
  unfold va_up
  by_cases c : t = a
  · rw [if_pos c, if_pos c, if_pos c]
    exact ⟨rfl, fun i hi => by show F (20 * t + i) = _; rw [c]; exact hF i (by omega)⟩
  · rw [if_neg c, if_neg c, if_neg c]
    refine ⟨it.1, fun i hi => ?_⟩
    have kz := K.2.2.2 t ht
    show F (20 * t + i) = _
    rw [hG (20 * t + i) (fun u hu => by omega)]
    exact it.2 i hi)
      · exact absurd (by rw [zI_le (by omega) (by omega) (by omega) (by omega)]; omega) c37
    | succ c ih =>
      intro k F hk hF hG
      have e1 : zI 20 * zI a + zI k = zI ((20 * a + k : Nat) : Int) := by rw [zI_mul, zI_add]; rfl
      have hin := zI_inN (a := 20 * a + k) (n := 60) (by omega) (by decide)
      rw [ja]
      refine sw_iload_n 36 dX12_list_35 rfl rfl rfl ?_
      refine sw_iload_n 37 dX12_list_36 rfl rfl rfl ?_
      refine sw_icmp_ge 58 40 dX12_list_37 (by decide) rfl (fun c37 => ?_) (fun c37 => ?_)
      · exact absurd c37 (by rw [zI_le (by omega) (by omega) (by omega) (by omega)]; omega)
      · refine sw_aload_n 41 dX12_list_40 rfl rfl rfl ?_
        refine sw_getR (b := 8) 44 dX12_list_41 rfl gf_RX12_33 (fun _ _ _ _ => rfl) ⟨by decide, rfl⟩ rfl ?_
        refine sw_bipush (v := zI 20) 46 dX12_list_44 rfl (by decide) ?_
        refine sw_iload_n 47 dX12_list_46 rfl rfl rfl ?_
        refine sw_imul 48 dX12_list_47 rfl ?_
        refine sw_iload_n 49 dX12_list_48 rfl rfl rfl ?_
        refine sw_iadd 50 dX12_list_49 rfl ?_
        rw [e1]
        refine sw_lconst (v := zL 0) 51 dX12_list_50 rfl (by decide) ?_
        refine sw_last 52 dX12_list_51 rfl ⟨by decide, rfl⟩ (by assumption) ?_
        refine sw_iinc (v := zI 1) (lc' := [(0, _), (1, _), (2, _), (3, _)]) 55 dX12_list_52 rfl (by decide) rfl rfl rfl ?_
        refine sw_goto 35 dX12_list_55 (by decide) ?_
        rw [zI_clampN (by omega), wLI, zI_add, ← ja]
        refine ih (k + 1) _ (by omega) (fun i hi => ?_) (fun i hi => ?_)
        · unfold va_up
          by_cases c : i = k
          · rw [if_pos (by omega)]
          · rw [if_neg (by omega)]; exact hF i (by omega)
        · unfold va_up
          rw [if_neg (hi k (by omega))]
          exact hG i (fun t ht => hi t (by omega))
  refine sw_iload_n 1 dX12_list_0 rfl rfl rfl ?_
  refine sw_invSI 4 dX12_list_1 rfl lk_RX12_254 (m_isList s1 s2) rfl rfl (Nat.le_of_ble_eq_true rfl) (fun r1 h1 hq1 => ?_)
  obtain ⟨rfl, rfl⟩ := hq1
  refine sw_if_ne 9 7 dX12_list_4 (by decide) rfl (fun c4 => ?_) (fun c4 => ?_)
  · rw [ifz_eq, Decidable.not_not] at c4
    refine sw_iload_n 10 dX12_list_9 rfl rfl rfl ?_
    refine sw_bipush (v := zI 20) 12 dX12_list_10 rfl (by decide) ?_
    refine sw_icmp_le 18 15 dX12_list_12 (by decide) rfl (fun c12 => ?_) (fun c12 => ?_)
    · rw [zI_le (by omega) (by omega) (by omega) (by omega)] at c12
      refine sw_iload_n 19 dX12_list_18 rfl rfl rfl ?_
      refine sw_iconst (v := zI (-1)) 20 dX12_list_19 rfl (by decide) ?_
      refine sw_icmp_ge 26 23 dX12_list_20 (by decide) rfl (fun c20 => ?_) (fun c20 => ?_)
      · rw [zI_le (by omega) (by omega) (by omega) (by omega)] at c20
        refine sw_aload_n 27 dX12_list_26 rfl rfl rfl ?_
        refine sw_getR (b := 7) 30 dX12_list_27 rfl gf_RX12_30 (fun _ _ _ _ => rfl) ⟨by decide, rfl⟩ rfl ?_
        refine sw_iload_n 31 dX12_list_30 rfl rfl rfl ?_
        refine sw_iload_n 32 dX12_list_31 rfl rfl rfl ?_
        refine sw_iast 33 dX12_list_32 rfl ⟨by decide, rfl⟩ (zI_in c4.1 (by omega) (by decide)) ?_
        refine sw_iconst (v := zI 0) 34 dX12_list_33 rfl (by decide) ?_
        refine sw_istore_n (lc' := [(0, _), (1, _), (2, _), (3, _)]) 35 dX12_list_34 rfl rfl (by decide) rfl ?_
        obtain ⟨a, ja⟩ := Int.eq_ofNat_of_zero_le c4.1
        have g := loop a ja (by omega) (by omega) (by omega) n.toNat 0 (h1.2 8) (by omega) (fun i hi => absurd hi (Nat.not_lt_zero i)) (fun i _ => rfl)
        rw [sw_pL_self rfl] at g
        rw [show (zI j).toNatClampNeg = a from by rw [zI_clamp (by omega) (by omega)]; omega]
        exact g
      · rw [zI_le (by omega) (by omega) (by omega) (by omega)] at c20
        subst hQ
        refine sw_bipush (v := zI (-14)) 25 dX12_list_23 rfl (by decide) ?_
        exact sw_iret dX12_list_25 rfl (by unfold opList; rw [if_pos c4, if_neg (by omega), if_pos (by omega)]; exact ⟨I, rfl⟩)
    · rw [zI_le (by omega) (by omega) (by omega) (by omega)] at c12
      subst hQ
      refine sw_bipush (v := zI (-2)) 17 dX12_list_15 rfl (by decide) ?_
      exact sw_iret dX12_list_17 rfl (by unfold opList; rw [if_pos c4, if_pos (by omega)]; exact ⟨I, rfl⟩)
  · rw [ifz_eq] at c4
    subst hQ
    refine sw_iconst (v := zI (-1)) 8 dX12_list_7 rfl (by decide) ?_
    exact sw_iret dX12_list_8 rfl (by unfold opList; rw [if_neg c4]; exact ⟨I, rfl⟩)
theorem m_lay (K : okS σ) (I : IM h σ) {j i : Int} {v : Int64} (s1 : -2147483648 ≤ j) (s2 : j < 2147483648) (i1 : -2147483648 ≤ i) (i2 : i < 2147483648) : sw_ct wM X l (d + 2) mX12_lay [.ref 0, .int (zI j), .int (zI i), .long v] h (sw_qI wM X fun r h2 => IM h2 (opLay σ j i v).2 ∧ r = zI (opLay σ j i v).1) := by
  refine sw_ct_of (by decide +kernel) (Nat.le_of_ble_eq_true rfl) rfl ?_
  refine sw_iload_n 1 dX12_lay_0 rfl rfl rfl ?_
  refine sw_invSI 4 dX12_lay_1 rfl lk_RX12_254 (m_isList s1 s2) rfl rfl (Nat.le_of_ble_eq_true rfl) (fun r1 h1 hq1 => ?_)
  obtain ⟨rfl, rfl⟩ := hq1
  refine sw_if_ne 9 7 dX12_lay_4 (by decide) rfl (fun c4 => ?_) (fun c4 => ?_)
  · rw [ifz_eq, Decidable.not_not] at c4
    obtain ⟨a, rfl⟩ := Int.eq_ofNat_of_zero_le c4.1
    have ha : a < 3 := by omega
    have hz := I.2.2.2.2.2 a ha
    have kz := K.2.2.2 a ha
    have hin1 := zI_inN (a := a) (n := 3) ha (by decide)
    refine sw_aload_n 10 dX12_lay_9 rfl rfl rfl ?_
    refine sw_getR (b := 7) 13 dX12_lay_10 rfl gf_RX12_30 (fun _ _ _ _ => rfl) ⟨by decide, rfl⟩ rfl ?_
    refine sw_iload_n 14 dX12_lay_13 rfl rfl rfl ?_
    refine sw_iald 15 dX12_lay_14 rfl ⟨by decide, rfl⟩ (by assumption) ?_
    rw [zI_clampN (by omega), hz.1]
    refine sw_if_ge 21 18 dX12_lay_15 (by decide) rfl (fun c15 => ?_) (fun c15 => ?_)
    · rw [z0, zI_le (by omega) (by omega) (by omega) (by omega)] at c15
      refine sw_iload_n 22 dX12_lay_21 rfl rfl rfl ?_
      refine sw_iconst (v := zI 0) 23 dX12_lay_22 rfl (by decide) ?_
      refine sw_aload_n 24 dX12_lay_23 rfl rfl rfl ?_
      refine sw_getR (b := 7) 27 dX12_lay_24 rfl gf_RX12_30 (fun _ _ _ _ => rfl) ⟨by decide, rfl⟩ rfl ?_
      refine sw_iload_n 28 dX12_lay_27 rfl rfl rfl ?_
      refine sw_iald 29 dX12_lay_28 rfl ⟨by decide, rfl⟩ (by assumption) ?_
      rw [zI_clampN (by omega), hz.1]
      refine sw_iconst (v := zI 1) 30 dX12_lay_29 rfl (by decide) ?_
      refine sw_isub 31 dX12_lay_30 rfl ?_
      rw [zI_sub]
      refine sw_invSI 34 dX12_lay_31 rfl lk_RX12_87 (c_in i1 i2 (by decide) (by decide) (by omega) (by omega)) rfl rfl (Nat.le_of_ble_eq_true rfl) (fun r31 h31 hq31 => ?_)
      obtain ⟨rfl, rfl⟩ := hq31
      refine sw_if_ne 40 37 dX12_lay_34 (by decide) rfl (fun c34 => ?_) (fun c34 => ?_)
      · rw [ifz_eq, Decidable.not_not] at c34
        obtain ⟨m, rfl⟩ := Int.eq_ofNat_of_zero_le c34.1
        have e1 : zI 20 * zI a + zI m = zI ((20 * a + m : Nat) : Int) := by rw [zI_mul, zI_add]; rfl
        have hin := zI_inN (a := 20 * a + m) (n := 60) (by omega) (by decide)
        refine sw_aload_n 41 dX12_lay_40 rfl rfl rfl ?_
        refine sw_getR (b := 8) 44 dX12_lay_41 rfl gf_RX12_33 (fun _ _ _ _ => rfl) ⟨by decide, rfl⟩ rfl ?_
        refine sw_bipush (v := zI 20) 46 dX12_lay_44 rfl (by decide) ?_
        refine sw_iload_n 47 dX12_lay_46 rfl rfl rfl ?_
        refine sw_imul 48 dX12_lay_47 rfl ?_
        refine sw_iload_n 49 dX12_lay_48 rfl rfl rfl ?_
        refine sw_iadd 50 dX12_lay_49 rfl ?_
        rw [e1]
        refine sw_lload_n 51 dX12_lay_50 rfl rfl rfl ?_
        refine sw_last 52 dX12_lay_51 rfl ⟨by decide, rfl⟩ (by assumption) ?_
        refine sw_iconst (v := zI 1) 53 dX12_lay_52 rfl (by decide) ?_
        exact sw_iret dX12_lay_53 rfl (by
  unfold opLay; rw [if_pos c4]; simp only [Int.toNat_natCast]; rw [if_neg (by omega), if_pos (by omega), zI_clampN (by omega)]
  have A : frM [8] [] h31 (sw_wL h31 8 (20 * a + m) v) := frM_wL (by decide)
  refine ⟨IM_ls A I rfl rfl (by decide) (by decide) I.2.2.2.2.1 (fun t ht => ?_), by first | rfl | trivial⟩
  show _ = zI (va_up σ.2.2.2.1 a (σ.2.2.2.1 a) t) ∧ ∀ i : Nat, (i : Int) < va_up σ.2.2.2.1 a (σ.2.2.2.1 a) t → _ = va_up σ.2.2.2.2 a (va_up (σ.2.2.2.2 a) m v) t i
  have it := I.2.2.2.2.2 t ht
  have kt := K.2.2.2 t ht
  rw [sw_wL_at]
  unfold va_up
  by_cases c : t = a
  · subst c
    rw [if_pos rfl, if_pos rfl]
    refine ⟨it.1, fun i hi => ?_⟩
    by_cases c2 : i = m
    · rw [if_pos (by omega), if_pos c2]
    · rw [if_neg (by omega), if_neg c2]; exact it.2 i hi
  · rw [if_neg c, if_neg c]
    refine ⟨it.1, fun i hi => ?_⟩
    rw [if_neg (by omega)]; exact it.2 i hi)
      · rw [ifz_eq] at c34
        refine sw_bipush (v := zI (-13)) 39 dX12_lay_37 rfl (by decide) ?_
        exact sw_iret dX12_lay_39 rfl (by unfold opLay; rw [if_pos c4]; simp only [Int.toNat_natCast]; rw [if_neg (by omega), if_neg (by omega)]; exact ⟨I, rfl⟩)
    · rw [z0, zI_le (by omega) (by omega) (by omega) (by omega)] at c15
      refine sw_bipush (v := zI (-11)) 20 dX12_lay_18 rfl (by decide) ?_
      exact sw_iret dX12_lay_20 rfl (by unfold opLay; rw [if_pos c4]; simp only [Int.toNat_natCast]; rw [if_pos (by omega)]; exact ⟨I, rfl⟩)
  · refine sw_iconst (v := zI (-1)) 8 dX12_lay_7 rfl (by decide) ?_
    exact sw_iret dX12_lay_8 rfl (by
  rw [ifz_eq] at c4
  unfold opLay; rw [if_neg c4]; exact ⟨I, rfl⟩)
theorem m_get (K : okS σ) (I : IM h σ) {j i : Int} (s1 : -2147483648 ≤ j) (s2 : j < 2147483648) (i1 : -2147483648 ≤ i) (i2 : i < 2147483648) : sw_ct wM X l (d + 2) mX12_get [.ref 0, .int (zI j), .int (zI i)] h (sw_qL wM X fun r h2 => IM h2 σ ∧ r = opGet σ j i) := by
  refine sw_ct_of (by decide +kernel) (Nat.le_of_ble_eq_true rfl) rfl ?_
  refine sw_iload_n 1 dX12_get_0 rfl rfl rfl ?_
  refine sw_invSI 4 dX12_get_1 rfl lk_RX12_254 (m_isList s1 s2) rfl rfl (Nat.le_of_ble_eq_true rfl) (fun r1 h1 hq1 => ?_)
  obtain ⟨rfl, rfl⟩ := hq1
  refine sw_if_eq 37 7 dX12_get_4 (by decide) rfl (fun c4 => ?_) (fun c4 => ?_)
  · refine sw_ldc2 40 dX12_get_37 rfl (show Cond.constantLong RX12 135 (zL (-9223372036854775808)) ∈ sw_big from kk_RX12_135) ?_
    exact sw_lret dX12_get_40 rfl (by
  rw [ifz_eq] at c4
  unfold opGet; rw [if_neg (fun hh => c4 hh.1)]; exact ⟨I, rfl⟩)
  · rw [ifz_eq, Decidable.not_not] at c4
    obtain ⟨a, rfl⟩ := Int.eq_ofNat_of_zero_le c4.1
    have ha : a < 3 := by omega
    have hz := I.2.2.2.2.2 a ha
    have kz := K.2.2.2 a ha
    have hin1 := zI_inN (a := a) (n := 3) ha (by decide)
    refine sw_iload_n 8 dX12_get_7 rfl rfl rfl ?_
    refine sw_iconst (v := zI 0) 9 dX12_get_8 rfl (by decide) ?_
    refine sw_aload_n 10 dX12_get_9 rfl rfl rfl ?_
    refine sw_getR (b := 7) 13 dX12_get_10 rfl gf_RX12_30 (fun _ _ _ _ => rfl) ⟨by decide, rfl⟩ rfl ?_
    refine sw_iload_n 14 dX12_get_13 rfl rfl rfl ?_
    refine sw_iald 15 dX12_get_14 rfl ⟨by decide, rfl⟩ (by assumption) ?_
    rw [zI_clampN (by omega), hz.1]
    refine sw_iconst (v := zI 1) 16 dX12_get_15 rfl (by decide) ?_
    refine sw_isub 17 dX12_get_16 rfl ?_
    rw [zI_sub]
    refine sw_invSI 20 dX12_get_17 rfl lk_RX12_87 (c_in i1 i2 (by decide) (by decide) (by omega) (by omega)) rfl rfl (Nat.le_of_ble_eq_true rfl) (fun r17 h17 hq17 => ?_)
    obtain ⟨rfl, rfl⟩ := hq17
    refine sw_if_eq 37 23 dX12_get_20 (by decide) rfl (fun c20 => ?_) (fun c20 => ?_)
    · refine sw_ldc2 40 dX12_get_37 rfl (show Cond.constantLong RX12 135 (zL (-9223372036854775808)) ∈ sw_big from kk_RX12_135) ?_
      exact sw_lret dX12_get_40 rfl (by
  rw [ifz_eq] at c20
  unfold opGet; simp only [Int.toNat_natCast]; rw [if_neg (by omega)]; exact ⟨I, rfl⟩)
    · rw [ifz_eq, Decidable.not_not] at c20
      obtain ⟨m, rfl⟩ := Int.eq_ofNat_of_zero_le c20.1
      have e1 : zI 20 * zI a + zI m = zI ((20 * a + m : Nat) : Int) := by rw [zI_mul, zI_add]; rfl
      have hin := zI_inN (a := 20 * a + m) (n := 60) (by omega) (by decide)
      refine sw_aload_n 24 dX12_get_23 rfl rfl rfl ?_
      refine sw_getR (b := 8) 27 dX12_get_24 rfl gf_RX12_33 (fun _ _ _ _ => rfl) ⟨by decide, rfl⟩ rfl ?_
      refine sw_bipush (v := zI 20) 29 dX12_get_27 rfl (by decide) ?_
      refine sw_iload_n 30 dX12_get_29 rfl rfl rfl ?_
      refine sw_imul 31 dX12_get_30 rfl ?_
      refine sw_iload_n 32 dX12_get_31 rfl rfl rfl ?_
      refine sw_iadd 33 dX12_get_32 rfl ?_
      rw [e1]
      refine sw_lald 34 dX12_get_33 rfl ⟨by decide, rfl⟩ (by assumption) ?_
      refine sw_goto 40 dX12_get_34 (by decide) ?_
      exact sw_lret dX12_get_40 rfl (by
  unfold opGet; simp only [Int.toNat_natCast]; rw [if_pos ⟨c4, by omega⟩, zI_clampN (by omega)]
  exact ⟨I, hz.2 m (by omega)⟩)
theorem m_count (K : okS σ) (I : IM h σ) {x : Int} (x1 : -2147483648 ≤ x) (x2 : x < 2147483648) : sw_ct wM X l (d + 2) mX12_count [.ref 0, .int (zI x)] h (sw_qI wM X fun r h2 => IM h2 σ ∧ r = zI (opCount σ x)) := by
  refine sw_ct_of (by decide +kernel) (Nat.le_of_ble_eq_true rfl) rfl ?_
  generalize hQ : (sw_qI wM X fun r h2 => IM h2 σ ∧ r = zI (opCount σ x)) = Qc
  have l3 : x = 3 → ∀ (c j : Nat), j + c = 3 → sw_wp wM X l (d + 2) mX12_count Qc 53 [(0, .ref 0), (1, .int (zI x)), (2, .int (zI (thereN σ.2.2.2.1 j))), (3, .int (zI j))] [] h := by
    intro hx c
    induction c with
    | zero =>
      intro j hj
      have : j = 3 := by omega
      subst this
      subst hQ
      refine sw_iload_n 54 dX12_count_53 rfl rfl rfl ?_
      refine sw_iconst (v := zI 3) 55 dX12_count_54 rfl (by decide) ?_
      refine sw_icmp_ge 81 58 dX12_count_55 (by decide) rfl (fun c55 => ?_) (fun c55 => ?_)
      · refine sw_iload_n 82 dX12_count_81 rfl rfl rfl ?_
        exact sw_iret dX12_count_82 rfl (by unfold opCount; rw [if_neg (by omega), if_neg (by omega), if_neg (by omega), if_pos hx]; exact ⟨I, rfl⟩)
      · exact absurd (Int32.le_refl _) c55
    | succ c ih =>
      intro j hj
      have hin := zI_inN (a := j) (n := 3) (by omega) (by decide)
      have hz := (I.2.2.2.2.2 j (by omega)).1
      have kz := K.2.2.2 j (by omega)
      have le : thereN σ.2.2.2.1 (j + 1) = thereN σ.2.2.2.1 j + if 0 ≤ σ.2.2.2.1 j then 1 else 0 := rfl
      have i9 := ih (j + 1) (by omega)
      refine sw_iload_n 54 dX12_count_53 rfl rfl rfl ?_
      refine sw_iconst (v := zI 3) 55 dX12_count_54 rfl (by decide) ?_
      refine sw_icmp_ge 81 58 dX12_count_55 (by decide) rfl (fun c55 => ?_) (fun c55 => ?_)
      · exact absurd c55 (by rw [zI_le (by omega) (by omega) (by omega) (by omega)]; omega)
      · refine sw_iload_n 59 dX12_count_58 rfl rfl rfl ?_
        refine sw_aload_n 60 dX12_count_59 rfl rfl rfl ?_
        refine sw_getR (b := 7) 63 dX12_count_60 rfl gf_RX12_30 (fun _ _ _ _ => rfl) ⟨by decide, rfl⟩ rfl ?_
        refine sw_iload_n 64 dX12_count_63 rfl rfl rfl ?_
        refine sw_iald 65 dX12_count_64 rfl ⟨by decide, rfl⟩ (by assumption) ?_
        rw [zI_clampN (by omega), hz]
        refine sw_if_lt 72 68 dX12_count_65 (by decide) rfl (fun c65 => ?_) (fun c65 => ?_)
        · refine sw_iconst (v := zI 0) 73 dX12_count_72 rfl (by decide) ?_
          refine sw_iadd 74 dX12_count_73 rfl ?_
          refine sw_istore_n (lc' := [(0, _), (1, _), (2, _), (3, _)]) 75 dX12_count_74 rfl rfl (by decide) rfl ?_
          refine sw_iinc (v := zI 1) (lc' := [(0, _), (1, _), (2, _), (3, _)]) 78 dX12_count_75 rfl (by decide) rfl rfl rfl ?_
          refine sw_goto 53 dX12_count_78 (by decide) ?_
          rw [z0, zI_lt (by omega) (by omega) (by omega) (by omega)] at c65
          rw [le, if_neg (by omega), Nat.add_zero] at i9
          simp only [zI_add, Int.add_zero]
          exact i9
        · refine sw_iconst (v := zI 1) 69 dX12_count_68 rfl (by decide) ?_
          refine sw_goto 73 dX12_count_69 (by decide) ?_
          refine sw_iadd 74 dX12_count_73 rfl ?_
          refine sw_istore_n (lc' := [(0, _), (1, _), (2, _), (3, _)]) 75 dX12_count_74 rfl rfl (by decide) rfl ?_
          refine sw_iinc (v := zI 1) (lc' := [(0, _), (1, _), (2, _), (3, _)]) 78 dX12_count_75 rfl (by decide) rfl rfl rfl ?_
          refine sw_goto 53 dX12_count_78 (by decide) ?_
          rw [z0, zI_lt (by omega) (by omega) (by omega) (by omega)] at c65
          rw [le, if_pos (by omega)] at i9
          simp only [zI_add]
          exact i9
  have l4 : x = 4 → ∀ (c j : Nat) (g : sw_H), j + c = 4 → IM g σ → sw_wp wM X l (d + 2) mX12_count Qc 85 [(0, .ref 0), (1, .int (zI x)), (2, .int (zI (pairsN σ j))), (3, .int (zI j))] [] g := by
    intro hx c
    induction c with
    | zero =>
      intro j g hj Ig
      have : j = 4 := by omega
      subst this
      subst hQ
      refine sw_iload_n 86 dX12_count_85 rfl rfl rfl ?_
      refine sw_iconst (v := zI 4) 87 dX12_count_86 rfl (by decide) ?_
      refine sw_icmp_ge 116 90 dX12_count_87 (by decide) rfl (fun c87 => ?_) (fun c87 => ?_)
      · refine sw_iload_n 117 dX12_count_116 rfl rfl rfl ?_
        exact sw_iret dX12_count_117 rfl (by unfold opCount; rw [if_neg (by omega), if_neg (by omega), if_neg (by omega), if_neg (by omega), if_pos hx]; exact ⟨Ig, rfl⟩)
      · exact absurd (Int32.le_refl _) c87
    | succ c ih =>
      intro j g hj Ig
      have ha : j < 4 := by omega
      have le : pairsN σ (j + 1) = pairsN σ j + if mtOK σ j then 1 else 0 := rfl
      refine sw_iload_n 86 dX12_count_85 rfl rfl rfl ?_
      refine sw_iconst (v := zI 4) 87 dX12_count_86 rfl (by decide) ?_
      refine sw_icmp_ge 116 90 dX12_count_87 (by decide) rfl (fun c87 => ?_) (fun c87 => ?_)
      · exact absurd c87 (by rw [zI_le (by omega) (by omega) (by omega) (by omega)]; omega)
      · refine sw_aload_n 91 dX12_count_90 rfl rfl rfl ?_
        refine sw_iload_n 92 dX12_count_91 rfl rfl rfl ?_
        refine sw_invVV 95 dX12_count_92 rfl lk_RX12_137 (m_looks K Ig ha) ⟨by decide, rfl⟩ rfl rfl (Nat.le_of_ble_eq_true rfl) (fun h92 hq92 => ?_)
        obtain ⟨A, R, S⟩ := hq92
        have I2 := IM_fr Ig A (by decide) (by decide)
        refine sw_iload_n 96 dX12_count_95 rfl rfl rfl ?_
        refine sw_aload_n 97 dX12_count_96 rfl rfl rfl ?_
        refine sw_invVI 100 dX12_count_97 rfl lk_RX12_160 (m_hasMate I2.1 K.1.1 R (fun i hi => e6 K ha hi) S (K.1.2.1 j ha).1) ⟨by decide, rfl⟩ rfl rfl (Nat.le_of_ble_eq_true rfl) (fun r97 h97 hq97 => ?_)
        obtain ⟨B, rfl, M⟩ := hq97
        have I3 := IM_fr I2 B (by decide) (by decide)
        have i9 := ih (j + 1) _ (by omega) I3
        refine sw_if_eq 107 103 dX12_count_100 (by decide) rfl (fun c100 => ?_) (fun c100 => ?_)
        · refine sw_iconst (v := zI 0) 108 dX12_count_107 rfl (by decide) ?_
          refine sw_iadd 109 dX12_count_108 rfl ?_
          refine sw_istore_n (lc' := [(0, _), (1, _), (2, _), (3, _)]) 110 dX12_count_109 rfl rfl (by decide) rfl ?_
          refine sw_iinc (v := zI 1) (lc' := [(0, _), (1, _), (2, _), (3, _)]) 113 dX12_count_110 rfl (by decide) rfl rfl rfl ?_
          refine sw_goto 85 dX12_count_113 (by decide) ?_
          rw [bIz_eq] at c100
          have c100 : mtOK σ j = false := c100
          rw [le, if_neg (by rw [c100]; decide), Nat.add_zero] at i9
          simp only [zI_add, Int.add_zero]
          exact i9
        · refine sw_iconst (v := zI 1) 104 dX12_count_103 rfl (by decide) ?_
          refine sw_goto 108 dX12_count_104 (by decide) ?_
          refine sw_iadd 109 dX12_count_108 rfl ?_
          refine sw_istore_n (lc' := [(0, _), (1, _), (2, _), (3, _)]) 110 dX12_count_109 rfl rfl (by decide) rfl ?_
          refine sw_iinc (v := zI 1) (lc' := [(0, _), (1, _), (2, _), (3, _)]) 113 dX12_count_110 rfl (by decide) rfl rfl rfl ?_
          refine sw_goto 85 dX12_count_113 (by decide) ?_
          rw [bIz_eq, Bool.not_eq_false] at c100
          have c100 : mtOK σ j = true := c100
          rw [le, if_pos c100] at i9
          simp only [zI_add]
          exact i9
  refine sw_iconst (v := zI 0) 1 dX12_count_0 rfl (by decide) ?_
  refine sw_istore_n (lc' := [(0, _), (1, _), (2, _)]) 2 dX12_count_1 rfl rfl (by decide) rfl ?_
  refine sw_iload_n 3 dX12_count_2 rfl rfl rfl ?_
  refine sw_tab dX12_count_3 (by decide) ?_ ?_
  · intro i9 off9 hi9 he9
    match i9, hi9 with
    | 0, hi9 =>
      obtain rfl : off9 = 33 := (Option.some.inj (show some (33 : Int) = some off9 from hi9)).symm
      refine sw_at_pc (q := 36) (by decide) ?_
      have t3 := he9
      rw [zI_toInt x1 x2] at t3
      subst hQ
      refine sw_aload_n 37 dX12_count_36 rfl rfl rfl ?_
      refine sw_getI 40 dX12_count_37 rfl gf_RX12_83 rfl ⟨by decide, rfl⟩ ?_
      exact sw_iret dX12_count_40 rfl (by unfold opCount; rw [if_pos (by omega)]; exact ⟨I, I.1.1⟩)
    | 1, hi9 =>
      obtain rfl : off9 = 38 := (Option.some.inj (show some (38 : Int) = some off9 from hi9)).symm
      refine sw_at_pc (q := 41) (by decide) ?_
      have t3 := he9
      rw [zI_toInt x1 x2] at t3
      subst hQ
      refine sw_aload_n 42 dX12_count_41 rfl rfl rfl ?_
      refine sw_getI 45 dX12_count_42 rfl gf_RX12_207 rfl ⟨by decide, rfl⟩ ?_
      exact sw_iret dX12_count_45 rfl (by unfold opCount; rw [if_neg (by omega), if_pos (by omega)]; exact ⟨I, I.2.2.1.1⟩)
    | 2, hi9 =>
      obtain rfl : off9 = 43 := (Option.some.inj (show some (43 : Int) = some off9 from hi9)).symm
      refine sw_at_pc (q := 46) (by decide) ?_
      have t3 := he9
      rw [zI_toInt x1 x2] at t3
      subst hQ
      refine sw_aload_n 47 dX12_count_46 rfl rfl rfl ?_
      refine sw_getI 50 dX12_count_47 rfl gf_RX12_225 rfl ⟨by decide, rfl⟩ ?_
      exact sw_iret dX12_count_50 rfl (by unfold opCount; rw [if_neg (by omega), if_neg (by omega), if_pos (by omega)]; exact ⟨I, I.2.2.2.2.1.1⟩)
    | 3, hi9 =>
      obtain rfl : off9 = 48 := (Option.some.inj (show some (48 : Int) = some off9 from hi9)).symm
      refine sw_at_pc (q := 51) (by decide) ?_
      have t3 := he9
      rw [zI_toInt x1 x2] at t3
      refine sw_iconst (v := zI 0) 52 dX12_count_51 rfl (by decide) ?_
      refine sw_istore_n (lc' := [(0, _), (1, _), (2, _), (3, _)]) 53 dX12_count_52 rfl rfl (by decide) rfl ?_
      exact l3 (by omega) 3 0 (by omega)
    | 4, hi9 =>
      obtain rfl : off9 = 80 := (Option.some.inj (show some (80 : Int) = some off9 from hi9)).symm
      refine sw_at_pc (q := 83) (by decide) ?_
      have t3 := he9
      rw [zI_toInt x1 x2] at t3
      refine sw_iconst (v := zI 0) 84 dX12_count_83 rfl (by decide) ?_
      refine sw_istore_n (lc' := [(0, _), (1, _), (2, _), (3, _)]) 85 dX12_count_84 rfl rfl (by decide) rfl ?_
      exact l4 (by omega) 4 0 _ (by omega) I
    | k9 + 5, hi9 => exact absurd hi9 (by simp)
  · intro ho9
    refine sw_at_pc (q := 118) (by decide) ?_
    have t3 := ho9
    rw [zI_toInt x1 x2] at t3
    subst hQ
    refine sw_iconst (v := zI (-1)) 119 dX12_count_118 rfl (by decide) ?_
    exact sw_iret dX12_count_119 rfl (by unfold opCount; rw [if_neg (by omega), if_neg (by omega), if_neg (by omega), if_neg (by omega), if_neg (by omega)]; exact ⟨I, rfl⟩)
theorem m_image (K : okS σ) (I : IM h σ) : sw_ct wM X l d mX12_image [.ref 0] h (sw_qI wM X fun r h2 => IM h2 (opImage σ).2 ∧ r = zI (opImage σ).1) := by
  have hn := K.1.1.1
  have hk := K.1.2.2.1
  refine sw_ct_of (by decide +kernel) (Nat.le_of_ble_eq_true rfl) rfl ?_
  generalize hQ : (sw_qI wM X fun r h2 => IM h2 (opImage σ).2 ∧ r = zI (opImage σ).1) = Qc
  generalize hg : sw_wI h 0 32 (zI 1) = g
  have A : frM [] [32] h g := by rw [← hg]; exact frM_w0 (by decide)
  have e32 : g.1 0 32 = zI 1 := by rw [← hg, sw_wI_at]; simp [va_up]
  have gF : ∀ (a : Nat) (F : Nat → Int32), a ≠ 23 → (sw_pI g 23 F).1 a = g.1 a := fun a F ha => sw_pI_ne ha
  have loop2 : ∀ (c j : Nat) (F : Nat → Int32), j + c = 16 → (∀ t, t < 4 → F t = g.1 1 t ∧ F (4 + t) = g.1 2 t ∧ F (8 + t) = g.1 4 t ∧ F (12 + t) = g.1 5 t) → (∀ t, t < j → F (16 + t) = g.1 3 t) → sw_wp wM X l d mX12_image Qc 76 [(0, .ref 0), (1, .int (zI j))] [] (sw_pI g 23 F) := by
    intro c
    induction c with
    | zero =>
      intro j F hj h1 h2
      have : j = 16 := by omega
      subst this
      subst hQ
      refine sw_iload_n 77 dX12_image_76 rfl rfl rfl ?_
      refine sw_bipush (v := zI 16) 79 dX12_image_77 rfl (by decide) ?_
      refine sw_icmp_ge 103 82 dX12_image_79 (by decide) rfl (fun c79 => ?_) (fun c79 => ?_)
      · refine sw_aload_n 104 dX12_image_103 rfl rfl rfl ?_
        refine sw_getR (b := 23) 107 dX12_image_104 rfl gf_RX12_80 (fun _ _ _ _ => rfl) ⟨by decide, rfl⟩ rfl ?_
        refine sw_bipush (v := zI 32) 109 dX12_image_107 rfl (by decide) ?_
        refine sw_aload_n 110 dX12_image_109 rfl rfl rfl ?_
        refine sw_getI 113 dX12_image_110 rfl gf_RX12_83 rfl ⟨by decide, rfl⟩ ?_
        refine sw_iast 114 dX12_image_113 rfl ⟨by decide, rfl⟩ (zI_inN (a := 32) (n := 34) (by decide) (by decide)) ?_
        rw [sw_wI_pI, gF 0 F (by decide)]
        refine sw_aload_n 115 dX12_image_114 rfl rfl rfl ?_
        refine sw_getR (b := 23) 118 dX12_image_115 rfl gf_RX12_80 (fun _ _ _ _ => rfl) ⟨by decide, rfl⟩ rfl ?_
        refine sw_bipush (v := zI 33) 120 dX12_image_118 rfl (by decide) ?_
        refine sw_aload_n 121 dX12_image_120 rfl rfl rfl ?_
        refine sw_getI 124 dX12_image_121 rfl gf_RX12_207 rfl ⟨by decide, rfl⟩ ?_
        refine sw_iast 125 dX12_image_124 rfl ⟨by decide, rfl⟩ (zI_inN (a := 33) (n := 34) (by decide) (by decide)) ?_
        rw [sw_wI_pI, gF 0 _ (by decide)]
        refine sw_aload_n 126 dX12_image_125 rfl rfl rfl ?_
        refine sw_getI 129 dX12_image_126 rfl gf_RX12_83 rfl ⟨by decide, rfl⟩ ?_
        exact sw_iret dX12_image_129 rfl (by
  rw [gF 0 _ (by decide)]
  have e0 : g.1 0 0 = zI σ.1.1.1 := by rw [A.2.2 0 (by decide)]; exact I.1.1
  have e5 : g.1 0 5 = zI σ.1.2.2.1 := by rw [A.2.2 5 (by decide)]; exact I.2.2.1.1
  have c32 : (zI 32).toNatClampNeg = 32 := zI_clampN (n := 32) (by decide)
  have c33 : (zI 33).toNatClampNeg = 33 := zI_clampN (n := 33) (by decide)
  rw [c32, c33, e0, e5]
  have hlt : ∀ t, t < 32 → va_up (va_up F 32 (zI σ.1.1.1)) 33 (zI σ.1.2.2.1) t = F t := fun t ht => by unfold va_up; rw [if_neg (by omega), if_neg (by omega)]
  have B : frM [23] [32] h (sw_pI g 23 (va_up (va_up F 32 (zI σ.1.1.1)) 33 (zI σ.1.2.2.1))) := frM_tr (frM_sub A (by decide) (by decide)) (frM_pI (by decide) (by decide))
  obtain ⟨i1, i2, i3, i4, i5, i6⟩ := I
  refine ⟨⟨imB_fr i1 B (by decide) (by decide) (by decide), fun s hs => by rw [B.1 4 (by decide) (by decide), B.1 3 (by decide) (by decide)]; exact i2 s hs, ⟨by rw [B.2.2 5 (by decide)]; exact i3.1, fun i hi => by rw [B.1 5 (by decide) (by decide)]; exact i3.2 i hi⟩, Or.inr ⟨σ.1, rfl, by rw [gF 0 _ (by decide)]; exact e32, ?_⟩, ⟨by rw [B.2.2 8 (by decide)]; exact i5.1, fun i hi => by rw [B.1 6 (by decide) (by decide)]; exact i5.2 i hi⟩, fun j hj => by rw [B.1 7 (by decide) (by decide), B.2.1 8 (by decide)]; exact i6 j hj⟩, rfl⟩
  unfold imE
  rw [sw_pI_at]
  refine ⟨by simp [va_up], by simp [va_up], fun i hi => ?_, fun s hs => ⟨?_, fun i hi => ?_⟩, fun i hi => ?_⟩
  · have q := h1 i (by omega)
    rw [hlt _ (by omega), hlt _ (by omega), q.1, q.2.1, A.1 1 (by decide) (by decide), A.1 2 (by decide) (by decide)]; exact i1.2 i hi
  · rw [hlt _ (by omega), (h1 s hs).2.2.1, A.1 4 (by decide) (by decide)]; exact (i2 s hs).1
  · rw [hlt _ (by omega), show 16 + 4 * s + i = 16 + (4 * s + i) by omega, h2 _ (by omega), A.1 3 (by decide) (by decide)]; exact (i2 s hs).2 i hi
  · rw [hlt _ (by omega), (h1 i (by omega)).2.2.2, A.1 5 (by decide) (by decide)]; exact i3.2 i hi)
      · exact absurd (Int32.le_refl _) c79
    | succ c ih =>
      intro j F hj h1 h2
      have e1 : zI 16 + zI j = zI ((16 + j : Nat) : Int) := by rw [zI_add]; rfl
      have hin1 := zI_inN (a := 16 + j) (n := 34) (by omega) (by decide)
      have hin2 := zI_inN (a := j) (n := 20) (by omega) (by decide)
      refine sw_iload_n 77 dX12_image_76 rfl rfl rfl ?_
      refine sw_bipush (v := zI 16) 79 dX12_image_77 rfl (by decide) ?_
      refine sw_icmp_ge 103 82 dX12_image_79 (by decide) rfl (fun c79 => ?_) (fun c79 => ?_)
      · exact absurd c79 (by rw [zI_le (by omega) (by omega) (by omega) (by omega)]; omega)
      · refine sw_aload_n 83 dX12_image_82 rfl rfl rfl ?_
        refine sw_getR (b := 23) 86 dX12_image_83 rfl gf_RX12_80 (fun _ _ _ _ => rfl) ⟨by decide, rfl⟩ rfl ?_
        refine sw_bipush (v := zI 16) 88 dX12_image_86 rfl (by decide) ?_
        refine sw_iload_n 89 dX12_image_88 rfl rfl rfl ?_
        refine sw_iadd 90 dX12_image_89 rfl ?_
        rw [e1]
        refine sw_aload_n 91 dX12_image_90 rfl rfl rfl ?_
        refine sw_getR (b := 3) 94 dX12_image_91 rfl gf_RX12_18 (fun _ _ _ _ => rfl) ⟨by decide, rfl⟩ rfl ?_
        refine sw_iload_n 95 dX12_image_94 rfl rfl rfl ?_
        refine sw_iald 96 dX12_image_95 rfl ⟨by decide, rfl⟩ (by assumption) ?_
        refine sw_iast 97 dX12_image_96 rfl ⟨by decide, rfl⟩ (by assumption) ?_
        refine sw_iinc (v := zI 1) (lc' := [(0, _), (1, _)]) 100 dX12_image_97 rfl (by decide) rfl rfl rfl ?_
        refine sw_goto 76 dX12_image_100 (by decide) ?_
        rw [zI_clampN (by omega), zI_clampN (by omega), gF 3 F (by decide), sw_wI_pI, zI_add]
        refine ih (j + 1) _ (by omega) (fun t ht => ?_) (fun t ht => ?_)
        · unfold va_up; rw [if_neg (by omega), if_neg (by omega), if_neg (by omega), if_neg (by omega)]; exact h1 t ht
        · unfold va_up
          by_cases c : t = j
          · rw [if_pos (by omega), c]
          · rw [if_neg (by omega)]; exact h2 t (by omega)
  have loop1 : ∀ (c j : Nat) (F : Nat → Int32), j + c = 4 → (∀ t, t < j → F t = g.1 1 t ∧ F (4 + t) = g.1 2 t ∧ F (8 + t) = g.1 4 t ∧ F (12 + t) = g.1 5 t) → sw_wp wM X l d mX12_image Qc 7 [(0, .ref 0), (1, .int (zI j))] [] (sw_pI g 23 F) := by
    intro c
    induction c with
    | zero =>
      intro j F hj h1
      have : j = 4 := by omega
      subst this
      refine sw_iload_n 8 dX12_image_7 rfl rfl rfl ?_
      refine sw_iconst (v := zI 4) 9 dX12_image_8 rfl (by decide) ?_
      refine sw_icmp_ge 74 12 dX12_image_9 (by decide) rfl (fun c9 => ?_) (fun c9 => ?_)
      · refine sw_iconst (v := zI 0) 75 dX12_image_74 rfl (by decide) ?_
        refine sw_istore_n (lc' := [(0, _), (1, _)]) 76 dX12_image_75 rfl rfl (by decide) rfl ?_
        exact loop2 16 0 F (by omega) h1 (fun t ht => absurd ht (Nat.not_lt_zero t))
      · exact absurd (Int32.le_refl _) c9
    | succ c ih =>
      intro j F hj h1
      have e1 : zI 4 + zI j = zI ((4 + j : Nat) : Int) := by rw [zI_add]; rfl
      have e2 : zI 8 + zI j = zI ((8 + j : Nat) : Int) := by rw [zI_add]; rfl
      have e3 : zI 12 + zI j = zI ((12 + j : Nat) : Int) := by rw [zI_add]; rfl
      have n0 := zI_inN (a := j) (n := 34) (by omega) (by decide)
      have n1 := zI_inN (a := 4 + j) (n := 34) (by omega) (by decide)
      have n2 := zI_inN (a := 8 + j) (n := 34) (by omega) (by decide)
      have n3 := zI_inN (a := 12 + j) (n := 34) (by omega) (by decide)
      have n4 := zI_inN (a := j) (n := 5) (by omega) (by decide)
      have n5 := zI_inN (a := j) (n := 4) (by omega) (by decide)
      refine sw_iload_n 8 dX12_image_7 rfl rfl rfl ?_
      refine sw_iconst (v := zI 4) 9 dX12_image_8 rfl (by decide) ?_
      refine sw_icmp_ge 74 12 dX12_image_9 (by decide) rfl (fun c9 => ?_) (fun c9 => ?_)
      · exact absurd c9 (by rw [zI_le (by omega) (by omega) (by omega) (by omega)]; omega)
      · refine sw_aload_n 13 dX12_image_12 rfl rfl rfl ?_
        refine sw_getR (b := 23) 16 dX12_image_13 rfl gf_RX12_80 (fun _ _ _ _ => rfl) ⟨by decide, rfl⟩ rfl ?_
        refine sw_iload_n 17 dX12_image_16 rfl rfl rfl ?_
        refine sw_aload_n 18 dX12_image_17 rfl rfl rfl ?_
        refine sw_getR (b := 1) 21 dX12_image_18 rfl gf_RX12_9 (fun _ _ _ _ => rfl) ⟨by decide, rfl⟩ rfl ?_
        refine sw_iload_n 22 dX12_image_21 rfl rfl rfl ?_
        refine sw_iald 23 dX12_image_22 rfl ⟨by decide, rfl⟩ (by assumption) ?_
        refine sw_iast 24 dX12_image_23 rfl ⟨by decide, rfl⟩ (by assumption) ?_
        rw [zI_clampN (by omega), gF 1 F (by decide), sw_wI_pI]
        refine sw_aload_n 25 dX12_image_24 rfl rfl rfl ?_
        refine sw_getR (b := 23) 28 dX12_image_25 rfl gf_RX12_80 (fun _ _ _ _ => rfl) ⟨by decide, rfl⟩ rfl ?_
        refine sw_iconst (v := zI 4) 29 dX12_image_28 rfl (by decide) ?_
        refine sw_iload_n 30 dX12_image_29 rfl rfl rfl ?_
        refine sw_iadd 31 dX12_image_30 rfl ?_
        rw [e1]
        refine sw_aload_n 32 dX12_image_31 rfl rfl rfl ?_
        refine sw_getR (b := 2) 35 dX12_image_32 rfl gf_RX12_15 (fun _ _ _ _ => rfl) ⟨by decide, rfl⟩ rfl ?_
        refine sw_iload_n 36 dX12_image_35 rfl rfl rfl ?_
        refine sw_iald 37 dX12_image_36 rfl ⟨by decide, rfl⟩ (by assumption) ?_
        refine sw_iast 38 dX12_image_37 rfl ⟨by decide, rfl⟩ (by assumption) ?_
        rw [zI_clampN (by omega), zI_clampN (by omega), gF 2 _ (by decide), sw_wI_pI]
        refine sw_aload_n 39 dX12_image_38 rfl rfl rfl ?_
        refine sw_getR (b := 23) 42 dX12_image_39 rfl gf_RX12_80 (fun _ _ _ _ => rfl) ⟨by decide, rfl⟩ rfl ?_
        refine sw_bipush (v := zI 8) 44 dX12_image_42 rfl (by decide) ?_
        refine sw_iload_n 45 dX12_image_44 rfl rfl rfl ?_
        refine sw_iadd 46 dX12_image_45 rfl ?_
        rw [e2]
        refine sw_aload_n 47 dX12_image_46 rfl rfl rfl ?_
        refine sw_getR (b := 4) 50 dX12_image_47 rfl gf_RX12_21 (fun _ _ _ _ => rfl) ⟨by decide, rfl⟩ rfl ?_
        refine sw_iload_n 51 dX12_image_50 rfl rfl rfl ?_
        refine sw_iald 52 dX12_image_51 rfl ⟨by decide, rfl⟩ (by assumption) ?_
        refine sw_iast 53 dX12_image_52 rfl ⟨by decide, rfl⟩ (by assumption) ?_
        rw [zI_clampN (by omega), zI_clampN (by omega), gF 4 _ (by decide), sw_wI_pI]
        refine sw_aload_n 54 dX12_image_53 rfl rfl rfl ?_
        refine sw_getR (b := 23) 57 dX12_image_54 rfl gf_RX12_80 (fun _ _ _ _ => rfl) ⟨by decide, rfl⟩ rfl ?_
        refine sw_bipush (v := zI 12) 59 dX12_image_57 rfl (by decide) ?_
        refine sw_iload_n 60 dX12_image_59 rfl rfl rfl ?_
        refine sw_iadd 61 dX12_image_60 rfl ?_
        rw [e3]
        refine sw_aload_n 62 dX12_image_61 rfl rfl rfl ?_
        refine sw_getR (b := 5) 65 dX12_image_62 rfl gf_RX12_24 (fun _ _ _ _ => rfl) ⟨by decide, rfl⟩ rfl ?_
        refine sw_iload_n 66 dX12_image_65 rfl rfl rfl ?_
        refine sw_iald 67 dX12_image_66 rfl ⟨by decide, rfl⟩ (by assumption) ?_
        refine sw_iast 68 dX12_image_67 rfl ⟨by decide, rfl⟩ (by assumption) ?_
        rw [zI_clampN (by omega), zI_clampN (by omega), gF 5 _ (by decide), sw_wI_pI]
        refine sw_iinc (v := zI 1) (lc' := [(0, _), (1, _)]) 71 dX12_image_68 rfl (by decide) rfl rfl rfl ?_
        refine sw_goto 7 dX12_image_71 (by decide) ?_
        rw [zI_add]
        refine ih (j + 1) _ (by omega) (fun t ht => ?_)
        unfold va_up
        by_cases c : t = j
        · subst c
          refine ⟨?_, ?_, ?_, ?_⟩
          · rw [if_neg (by omega), if_neg (by omega), if_neg (by omega), if_pos rfl]
          · rw [if_neg (by omega), if_neg (by omega), if_pos rfl]
          · rw [if_neg (by omega), if_pos rfl]
          · rw [if_pos rfl]
        · have q := h1 t (by omega)
          refine ⟨?_, ?_, ?_, ?_⟩
          · rw [if_neg (by omega), if_neg (by omega), if_neg (by omega), if_neg (by omega)]; exact q.1
          · rw [if_neg (by omega), if_neg (by omega), if_neg (by omega), if_neg (by omega)]; exact q.2.1
          · rw [if_neg (by omega), if_neg (by omega), if_neg (by omega), if_neg (by omega)]; exact q.2.2.1
          · rw [if_neg (by omega), if_neg (by omega), if_neg (by omega), if_neg (by omega)]; exact q.2.2.2
  refine sw_aload_n 1 dX12_image_0 rfl rfl rfl ?_
  refine sw_iconst (v := zI 1) 2 dX12_image_1 rfl (by decide) ?_
  refine sw_putZ 5 (by first | exact Or.inl rfl | exact Or.inr rfl | assumption) dX12_image_2 rfl pf_RX12_257 rfl ⟨by decide, rfl⟩ ?_
  refine sw_iconst (v := zI 0) 6 dX12_image_5 rfl (by decide) ?_
  refine sw_istore_n (lc' := [(0, _), (1, _)]) 7 dX12_image_6 rfl rfl (by decide) rfl ?_
  have q := loop1 4 0 (g.1 23) (by omega) (fun t ht => absurd ht (Nat.not_lt_zero t))
  rw [sw_pI_self rfl, ← hg] at q
  exact q
theorem m_undo (K : okS σ) (I : IM h σ) : sw_ct wM X l d mX12_undo [.ref 0] h (sw_qI wM X fun r h2 => IM h2 (opUndo σ).2 ∧ r = zI (opUndo σ).1) := by
  refine sw_ct_of (by decide +kernel) (Nat.le_of_ble_eq_true rfl) rfl ?_
  generalize hQ : (sw_qI wM X fun r h2 => IM h2 (opUndo σ).2 ∧ r = zI (opUndo σ).1) = Qc
  have loop2 : ∀ E, σ.2.1 = some E → imE h E → ∀ (c j : Nat) (g : sw_H), j + c = 16 → frM [1, 2, 3, 4, 5] [] h g → (∀ t, t < 4 → g.1 1 t = h.1 23 t ∧ g.1 2 t = h.1 23 (4 + t) ∧ g.1 4 t = h.1 23 (8 + t) ∧ g.1 5 t = h.1 23 (12 + t)) → (∀ t, t < j → g.1 3 t = h.1 23 (16 + t)) → sw_wp wM X l d mX12_undo Qc 81 [(0, .ref 0), (1, .int (zI j))] [] g := by
    intro E hE HE c
    have kE := K.2.1 E hE
    have kn := kE.1.1
    have kk := kE.2.2.1
    induction c with
    | zero =>
      intro j g hj A h1 h2
      have : j = 16 := by omega
      subst this
      subst hQ
      obtain ⟨w1, w2, w3, w4, w5⟩ := HE
      have i32 : g.1 23 (zI 32).toNatClampNeg = zI E.1.1 := by rw [show (zI 32).toNatClampNeg = 32 from zI_clampN (n := 32) (by decide), A.1 23 (by decide) (by decide)]; exact w1
      have i33 : ∀ x, (sw_wI g 0 0 x).1 23 (zI 33).toNatClampNeg = zI E.2.2.1 := fun x => by rw [show (zI 33).toNatClampNeg = 33 from zI_clampN (n := 33) (by decide), sw_wI_ne (by decide), A.1 23 (by decide) (by decide)]; exact w2
      refine sw_iload_n 82 dX12_undo_81 rfl rfl rfl ?_
      refine sw_bipush (v := zI 16) 84 dX12_undo_82 rfl (by decide) ?_
      refine sw_icmp_ge 108 87 dX12_undo_84 (by decide) rfl (fun c84 => ?_) (fun c84 => ?_)
      · refine sw_aload_n 109 dX12_undo_108 rfl rfl rfl ?_
        refine sw_aload_n 110 dX12_undo_109 rfl rfl rfl ?_
        refine sw_getR (b := 23) 113 dX12_undo_110 rfl gf_RX12_80 (fun _ _ _ _ => rfl) ⟨by decide, rfl⟩ rfl ?_
        refine sw_bipush (v := zI 32) 115 dX12_undo_113 rfl (by decide) ?_
        refine sw_iald 116 dX12_undo_115 rfl ⟨by decide, rfl⟩ (zI_inN (a := 32) (n := 34) (by decide) (by decide)) ?_
        rw [i32]
        refine sw_putI 119 dX12_undo_116 rfl pf_RX12_83 rfl ⟨by decide, rfl⟩ ?_
        refine sw_aload_n 120 dX12_undo_119 rfl rfl rfl ?_
        refine sw_aload_n 121 dX12_undo_120 rfl rfl rfl ?_
        refine sw_getR (b := 23) 124 dX12_undo_121 rfl gf_RX12_80 (fun _ _ _ _ => rfl) ⟨by decide, rfl⟩ rfl ?_
        refine sw_bipush (v := zI 33) 126 dX12_undo_124 rfl (by decide) ?_
        refine sw_iald 127 dX12_undo_126 rfl ⟨by decide, rfl⟩ (zI_inN (a := 33) (n := 34) (by decide) (by decide)) ?_
        rw [i33]
        refine sw_putI 130 dX12_undo_127 rfl pf_RX12_207 rfl ⟨by decide, rfl⟩ ?_
        refine sw_aload_n 131 dX12_undo_130 rfl rfl rfl ?_
        refine sw_getI 134 dX12_undo_131 rfl gf_RX12_83 rfl ⟨by decide, rfl⟩ ?_
        exact sw_iret dX12_undo_134 rfl (by
  have B : frM [1, 2, 3, 4, 5] [0, 5] h (sw_wI (sw_wI g 0 0 (zI E.1.1)) 0 5 (zI E.2.2.1)) := frM_tr (frM_sub A (by decide) (by decide)) (frM_tr (frM_w0 (by decide)) (frM_w0 (by decide)))
  have C : ∀ a, a ≠ 0 → (sw_wI (sw_wI g 0 0 (zI E.1.1)) 0 5 (zI E.2.2.1)).1 a = g.1 a := fun a ha => by rw [sw_wI_ne ha, sw_wI_ne ha]
  have e0 : (sw_wI (sw_wI g 0 0 (zI E.1.1)) 0 5 (zI E.2.2.1)).1 0 0 = zI E.1.1 := by rw [sw_wI_at, sw_wI_at]; simp [va_up]
  have e5 : (sw_wI (sw_wI g 0 0 (zI E.1.1)) 0 5 (zI E.2.2.1)).1 0 5 = zI E.2.2.1 := by rw [sw_wI_at]; simp [va_up]
  unfold opUndo; rw [hE]
  refine ⟨frM_I B I rfl (by decide) (by decide) ⟨e0, fun i hi => ?_⟩ (fun s hs => ⟨?_, fun i hi => ?_⟩) ⟨e5, fun i hi => ?_⟩, e0⟩
  · have hi : i < E.1.1 := hi
    have q := h1 i (by omega)
    rw [C 1 (by decide), C 2 (by decide), q.1, q.2.1]; exact w3 i hi
  · rw [C 4 (by decide), (h1 s hs).2.2.1]; exact (w4 s hs).1
  · have hi : i < E.1.1 := hi
    rw [C 3 (by decide), h2 _ (by omega), ← Nat.add_assoc]; exact (w4 s hs).2 i hi
  · have hi : i < E.2.2.1 := hi
    rw [C 5 (by decide), (h1 i (by omega)).2.2.2]; exact w5 i hi)
      · exact absurd (Int32.le_refl _) c84
    | succ c ih =>
      intro j g hj A h1 h2
      have e1 : zI 16 + zI j = zI ((16 + j : Nat) : Int) := by rw [zI_add]; rfl
      have hin1 := zI_inN (a := 16 + j) (n := 34) (by omega) (by decide)
      have hin2 := zI_inN (a := j) (n := 20) (by omega) (by decide)
      have e23 := A.1 23 (by decide) (by decide)
      refine sw_iload_n 82 dX12_undo_81 rfl rfl rfl ?_
      refine sw_bipush (v := zI 16) 84 dX12_undo_82 rfl (by decide) ?_
      refine sw_icmp_ge 108 87 dX12_undo_84 (by decide) rfl (fun c84 => ?_) (fun c84 => ?_)
      · exact absurd c84 (by rw [zI_le (by omega) (by omega) (by omega) (by omega)]; omega)
      · refine sw_aload_n 88 dX12_undo_87 rfl rfl rfl ?_
        refine sw_getR (b := 3) 91 dX12_undo_88 rfl gf_RX12_18 (fun _ _ _ _ => rfl) ⟨by decide, rfl⟩ rfl ?_
        refine sw_iload_n 92 dX12_undo_91 rfl rfl rfl ?_
        refine sw_aload_n 93 dX12_undo_92 rfl rfl rfl ?_
        refine sw_getR (b := 23) 96 dX12_undo_93 rfl gf_RX12_80 (fun _ _ _ _ => rfl) ⟨by decide, rfl⟩ rfl ?_
        refine sw_bipush (v := zI 16) 98 dX12_undo_96 rfl (by decide) ?_
        refine sw_iload_n 99 dX12_undo_98 rfl rfl rfl ?_
        refine sw_iadd 100 dX12_undo_99 rfl ?_
        rw [e1]
        refine sw_iald 101 dX12_undo_100 rfl ⟨by decide, rfl⟩ (by assumption) ?_
        refine sw_iast 102 dX12_undo_101 rfl ⟨by decide, rfl⟩ (by assumption) ?_
        refine sw_iinc (v := zI 1) (lc' := [(0, _), (1, _)]) 105 dX12_undo_102 rfl (by decide) rfl rfl rfl ?_
        refine sw_goto 81 dX12_undo_105 (by decide) ?_
        rw [zI_clampN (by omega), zI_clampN (by omega), e23, zI_add]
        refine ih (j + 1) _ (by omega) (frM_tr A (frM_wI (by decide) (by decide))) (fun t ht => ?_) (fun t ht => ?_)
        · rw [sw_wI_ne (by decide), sw_wI_ne (by decide), sw_wI_ne (by decide), sw_wI_ne (by decide)]; exact h1 t ht
        · rw [sw_wI_at]
          unfold va_up
          by_cases c : t = j
          · rw [if_pos c, c]
          · rw [if_neg c]; exact h2 t (by omega)
  have loop1 : ∀ E, σ.2.1 = some E → imE h E → ∀ (c j : Nat) (g : sw_H), j + c = 4 → frM [1, 2, 3, 4, 5] [] h g → (∀ t, t < j → g.1 1 t = h.1 23 t ∧ g.1 2 t = h.1 23 (4 + t) ∧ g.1 4 t = h.1 23 (8 + t) ∧ g.1 5 t = h.1 23 (12 + t)) → sw_wp wM X l d mX12_undo Qc 12 [(0, .ref 0), (1, .int (zI j))] [] g := by
    intro E hE HE c
    induction c with
    | zero =>
      intro j g hj A h1
      have : j = 4 := by omega
      subst this
      refine sw_iload_n 13 dX12_undo_12 rfl rfl rfl ?_
      refine sw_iconst (v := zI 4) 14 dX12_undo_13 rfl (by decide) ?_
      refine sw_icmp_ge 79 17 dX12_undo_14 (by decide) rfl (fun c14 => ?_) (fun c14 => ?_)
      · refine sw_iconst (v := zI 0) 80 dX12_undo_79 rfl (by decide) ?_
        refine sw_istore_n (lc' := [(0, _), (1, _)]) 81 dX12_undo_80 rfl rfl (by decide) rfl ?_
        exact loop2 E hE HE 16 0 g (by omega) A h1 (fun t ht => absurd ht (Nat.not_lt_zero t))
      · exact absurd (Int32.le_refl _) c14
    | succ c ih =>
      intro j g hj A h1
      have e1 : zI 4 + zI j = zI ((4 + j : Nat) : Int) := by rw [zI_add]; rfl
      have e2 : zI 8 + zI j = zI ((8 + j : Nat) : Int) := by rw [zI_add]; rfl
      have e3 : zI 12 + zI j = zI ((12 + j : Nat) : Int) := by rw [zI_add]; rfl
      have n0 := zI_inN (a := j) (n := 34) (by omega) (by decide)
      have n1 := zI_inN (a := 4 + j) (n := 34) (by omega) (by decide)
      have n2 := zI_inN (a := 8 + j) (n := 34) (by omega) (by decide)
      have n3 := zI_inN (a := 12 + j) (n := 34) (by omega) (by decide)
      have n4 := zI_inN (a := j) (n := 5) (by omega) (by decide)
      have n5 := zI_inN (a := j) (n := 4) (by omega) (by decide)
      have e23 := A.1 23 (by decide) (by decide)
      refine sw_iload_n 13 dX12_undo_12 rfl rfl rfl ?_
      refine sw_iconst (v := zI 4) 14 dX12_undo_13 rfl (by decide) ?_
      refine sw_icmp_ge 79 17 dX12_undo_14 (by decide) rfl (fun c14 => ?_) (fun c14 => ?_)
      · exact absurd c14 (by rw [zI_le (by omega) (by omega) (by omega) (by omega)]; omega)
      · refine sw_aload_n 18 dX12_undo_17 rfl rfl rfl ?_
        refine sw_getR (b := 1) 21 dX12_undo_18 rfl gf_RX12_9 (fun _ _ _ _ => rfl) ⟨by decide, rfl⟩ rfl ?_
        refine sw_iload_n 22 dX12_undo_21 rfl rfl rfl ?_
        refine sw_aload_n 23 dX12_undo_22 rfl rfl rfl ?_
        refine sw_getR (b := 23) 26 dX12_undo_23 rfl gf_RX12_80 (fun _ _ _ _ => rfl) ⟨by decide, rfl⟩ rfl ?_
        refine sw_iload_n 27 dX12_undo_26 rfl rfl rfl ?_
        refine sw_iald 28 dX12_undo_27 rfl ⟨by decide, rfl⟩ (by assumption) ?_
        refine sw_iast 29 dX12_undo_28 rfl ⟨by decide, rfl⟩ (by assumption) ?_
        rw [zI_clampN (by omega), e23]
        refine sw_aload_n 30 dX12_undo_29 rfl rfl rfl ?_
        refine sw_getR (b := 2) 33 dX12_undo_30 rfl gf_RX12_15 (fun _ _ _ _ => rfl) ⟨by decide, rfl⟩ rfl ?_
        refine sw_iload_n 34 dX12_undo_33 rfl rfl rfl ?_
        refine sw_aload_n 35 dX12_undo_34 rfl rfl rfl ?_
        refine sw_getR (b := 23) 38 dX12_undo_35 rfl gf_RX12_80 (fun _ _ _ _ => rfl) ⟨by decide, rfl⟩ rfl ?_
        refine sw_iconst (v := zI 4) 39 dX12_undo_38 rfl (by decide) ?_
        refine sw_iload_n 40 dX12_undo_39 rfl rfl rfl ?_
        refine sw_iadd 41 dX12_undo_40 rfl ?_
        rw [e1]
        refine sw_iald 42 dX12_undo_41 rfl ⟨by decide, rfl⟩ (by assumption) ?_
        refine sw_iast 43 dX12_undo_42 rfl ⟨by decide, rfl⟩ (by assumption) ?_
        rw [zI_clampN (by omega), zI_clampN (by omega), sw_wI_ne (by decide), e23]
        refine sw_aload_n 44 dX12_undo_43 rfl rfl rfl ?_
        refine sw_getR (b := 4) 47 dX12_undo_44 rfl gf_RX12_21 (fun _ _ _ _ => rfl) ⟨by decide, rfl⟩ rfl ?_
        refine sw_iload_n 48 dX12_undo_47 rfl rfl rfl ?_
        refine sw_aload_n 49 dX12_undo_48 rfl rfl rfl ?_
        refine sw_getR (b := 23) 52 dX12_undo_49 rfl gf_RX12_80 (fun _ _ _ _ => rfl) ⟨by decide, rfl⟩ rfl ?_
        refine sw_bipush (v := zI 8) 54 dX12_undo_52 rfl (by decide) ?_
        refine sw_iload_n 55 dX12_undo_54 rfl rfl rfl ?_
        refine sw_iadd 56 dX12_undo_55 rfl ?_
        rw [e2]
        refine sw_iald 57 dX12_undo_56 rfl ⟨by decide, rfl⟩ (by assumption) ?_
        refine sw_iast 58 dX12_undo_57 rfl ⟨by decide, rfl⟩ (by assumption) ?_
        rw [zI_clampN (by omega), zI_clampN (by omega), sw_wI_ne (by decide), sw_wI_ne (by decide), e23]
        refine sw_aload_n 59 dX12_undo_58 rfl rfl rfl ?_
        refine sw_getR (b := 5) 62 dX12_undo_59 rfl gf_RX12_24 (fun _ _ _ _ => rfl) ⟨by decide, rfl⟩ rfl ?_
        refine sw_iload_n 63 dX12_undo_62 rfl rfl rfl ?_
        refine sw_aload_n 64 dX12_undo_63 rfl rfl rfl ?_
        refine sw_getR (b := 23) 67 dX12_undo_64 rfl gf_RX12_80 (fun _ _ _ _ => rfl) ⟨by decide, rfl⟩ rfl ?_
        refine sw_bipush (v := zI 12) 69 dX12_undo_67 rfl (by decide) ?_
        refine sw_iload_n 70 dX12_undo_69 rfl rfl rfl ?_
        refine sw_iadd 71 dX12_undo_70 rfl ?_
        rw [e3]
        refine sw_iald 72 dX12_undo_71 rfl ⟨by decide, rfl⟩ (by assumption) ?_
        refine sw_iast 73 dX12_undo_72 rfl ⟨by decide, rfl⟩ (by assumption) ?_
        rw [zI_clampN (by omega), zI_clampN (by omega), sw_wI_ne (by decide), sw_wI_ne (by decide), sw_wI_ne (by decide), e23]
        refine sw_iinc (v := zI 1) (lc' := [(0, _), (1, _)]) 76 dX12_undo_73 rfl (by decide) rfl rfl rfl ?_
        refine sw_goto 12 dX12_undo_76 (by decide) ?_
        rw [zI_add]
        refine ih (j + 1) _ (by omega) (frM_tr A (frM_tr (frM_wI (by decide) (by decide)) (frM_tr (frM_wI (by decide) (by decide)) (frM_tr (frM_wI (by decide) (by decide)) (frM_wI (by decide) (by decide)))))) (fun t ht => ?_)
        rw [sw_wI_ne (show 1 ≠ 5 by decide), sw_wI_ne (show 1 ≠ 4 by decide), sw_wI_ne (show 1 ≠ 2 by decide), sw_wI_at, sw_wI_ne (show 2 ≠ 5 by decide), sw_wI_ne (show 2 ≠ 4 by decide), sw_wI_at, sw_wI_ne (show 2 ≠ 1 by decide), sw_wI_ne (show 4 ≠ 5 by decide), sw_wI_at, sw_wI_ne (show 4 ≠ 2 by decide), sw_wI_ne (show 4 ≠ 1 by decide), sw_wI_at, sw_wI_ne (show 5 ≠ 4 by decide), sw_wI_ne (show 5 ≠ 2 by decide), sw_wI_ne (show 5 ≠ 1 by decide)]
        unfold va_up
        by_cases c : t = j
        · subst c
          rw [if_pos rfl, if_pos rfl, if_pos rfl, if_pos rfl]
          exact ⟨rfl, rfl, rfl, rfl⟩
        · rw [if_neg c, if_neg c, if_neg c, if_neg c]; exact h1 t (by omega)
  refine sw_aload_n 1 dX12_undo_0 rfl rfl rfl ?_
  refine sw_getZ 4 dX12_undo_1 rfl gf_RX12_257 rfl ⟨by decide, rfl⟩ ?_
  refine sw_if_ne 10 7 dX12_undo_4 (by decide) rfl (fun c4 => ?_) (fun c4 => ?_)
  · refine sw_iconst (v := zI 0) 11 dX12_undo_10 rfl (by decide) ?_
    refine sw_istore_n (lc' := [(0, _), (1, _)]) 12 dX12_undo_11 rfl rfl (by decide) rfl ?_
    rcases I.2.2.2.1 with ⟨z1, z2⟩ | ⟨E, z1, z2, z3⟩
    · rw [z2] at c4; exact absurd rfl c4
    · exact loop1 E z1 z3 4 0 _ (by omega) frM_rf (fun t ht => absurd ht (Nat.not_lt_zero t))
  · subst hQ
    refine sw_bipush (v := zI (-3)) 9 dX12_undo_7 rfl (by decide) ?_
    exact sw_iret dX12_undo_9 rfl (by
  rcases I.2.2.2.1 with ⟨z1, z2⟩ | ⟨E, z1, z2, z3⟩
  · unfold opUndo; rw [z1]; exact ⟨I, rfl⟩
  · rw [z2] at c4; exact absurd c4 (by decide))
end sw_m8
