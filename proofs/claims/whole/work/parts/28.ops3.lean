/-! THE CLASS'S CALLS, 3: products, partners, forms -/
theorem cpy4 {f g : Nat → Int32} {i : Nat} (hi : i < 4) : va_cpy f g 0 0 4 i = f i := by simp [va_cpy, hi]
theorem IA_copyU {g : sw_H} {σ : SgZ} {t u pu : Nat} {x : Int} {e : Nat → Int} (I : IA g σ) (W : atU g u pu x e) (ht : t < 4) : IA (uH g (8 + 2 * t) (9 + 2 * t) (va_cpy (g.1 pu) (g.1 (9 + 2 * t)) 0 0 4) (g.1 u 1)) (setSh σ t x e) := by
  rw [W.1]
  exact IA_setSh I ht (fun i hi => by rw [cpy4 hi]; exact W.2 i hi)
theorem IA_work {h h2 : sw_H} {σ : SgZ} (I : IA h σ) (A : ∀ a, a ≠ 60 → a ≠ 61 → h2.1 a = h.1 a) (B : h2.2 = h.2) : IA h2 σ :=
  IA_side I (fun a ha => ⟨A a (fun e => ha (by subst e; unfold sideC; omega)) (fun e => ha (by subst e; unfold sideC; omega)), by rw [B]⟩)
section sw_ops3
variable {X : sw_X} {l : Launch} {d : Nat} {h : sw_H} {σ : SgZ}
theorem a_combine (K : okS σ) (I : IA h σ) {s o to t : Int} (s1 : -2147483648 ≤ s) (s2 : s < 2147483648) (o1 : -2147483648 ≤ o) (o2 : o < 2147483648) (t1 : -2147483648 ≤ to) (t2 : to < 2147483648) (ht : t = 1 ∨ t = -1) : sw_ct wA X l (d + 3) mX11_combine [.ref 0, .int (zI s), .int (zI o), .int (zI to), .int (zI t)] h (sw_qI wA X fun r h2 => IA h2 (opJoin σ s o to t).2 ∧ r = zI (opJoin σ s o to t).1) := by
  refine sw_ct_of (by decide +kernel) (Nat.le_of_ble_eq_true rfl) rfl ?_
  refine sw_iload_n 1 dX11_combine_0 rfl rfl rfl ?_
  refine sw_invSI 4 dX11_combine_1 rfl lk_RX11_124 (c_isShelf s1 s2) rfl rfl (Nat.le_of_ble_eq_true rfl) (fun r1 h1 hq1 => ?_)
  obtain ⟨rfl, rfl⟩ := hq1
  refine sw_if_eq 21 7 dX11_combine_4 (by decide) rfl (fun c4 => ?_) (fun c4 => ?_)
  · refine sw_iconst (v := zI (-1)) 22 dX11_combine_21 rfl (by decide) ?_
    exact sw_iret dX11_combine_22 rfl (by
  rw [ifz_eq] at c4
  unfold opJoin; rw [if_neg (fun hh => c4 hh.1)]; exact ⟨I, rfl⟩)
  · rw [ifz_eq, Decidable.not_not] at c4
    refine sw_iload_n 8 dX11_combine_7 rfl rfl rfl ?_
    refine sw_invSI 11 dX11_combine_8 rfl lk_RX11_124 (c_isShelf o1 o2) rfl rfl (Nat.le_of_ble_eq_true rfl) (fun r8 h8 hq8 => ?_)
    obtain ⟨rfl, rfl⟩ := hq8
    refine sw_if_eq 21 14 dX11_combine_11 (by decide) rfl (fun c11 => ?_) (fun c11 => ?_)
    · refine sw_iconst (v := zI (-1)) 22 dX11_combine_21 rfl (by decide) ?_
      exact sw_iret dX11_combine_22 rfl (by
  rw [ifz_eq] at c11
  unfold opJoin; rw [if_neg (fun hh => c11 hh.2.1)]; exact ⟨I, rfl⟩)
    · rw [ifz_eq, Decidable.not_not] at c11
      refine sw_iload_n 15 dX11_combine_14 rfl rfl rfl ?_
      refine sw_invSI 18 dX11_combine_15 rfl lk_RX11_124 (c_isShelf t1 t2) rfl rfl (Nat.le_of_ble_eq_true rfl) (fun r15 h15 hq15 => ?_)
      obtain ⟨rfl, rfl⟩ := hq15
      refine sw_if_ne 23 21 dX11_combine_18 (by decide) rfl (fun c18 => ?_) (fun c18 => ?_)
      · rw [ifz_eq, Decidable.not_not] at c18
        obtain ⟨a, rfl⟩ := Int.eq_ofNat_of_zero_le c4.1
        obtain ⟨b, rfl⟩ := Int.eq_ofNat_of_zero_le c11.1
        obtain ⟨c, rfl⟩ := Int.eq_ofNat_of_zero_le c18.1
        have ha : a < 4 := by omega
        have hb : b < 4 := by omega
        have hc : c < 4 := by omega
        have hin1 := zI_inN (a := a) (n := 4) ha (by decide)
        have hin2 := zI_inN (a := b) (n := 4) hb (by decide)
        have hin3 := zI_inN (a := c) (n := 4) hc (by decide)
        have hrf1 := rf_now ha
        have hrf2 := rf_now hb
        have hrf3 := rf_now hc
        have hU1 := (isU_now ha).1
        have hU2 := (isU_now hb).1
        have hU3 := (isU_now hc).1
        have hVa := IA_U K I ha
        have hVb := IA_U K I hb
        have hj : ∀ i, i < 4 → -1000 ≤ joinE σ a b t i ∧ joinE σ a b t i ≤ 1000 := fun i hi => by
          have e1 := hVa.2.2 i hi
          have e2 := hVb.2.2 i hi
          unfold joinE
          rcases ht with rfl | rfl <;> omega
        refine sw_aload_n 24 dX11_combine_23 rfl rfl rfl ?_
        refine sw_getR (b := 60) 27 dX11_combine_24 rfl gf_RX11_45 (fun _ _ _ _ => rfl) ⟨by decide, rfl⟩ rfl ?_
        refine sw_aload_n 28 dX11_combine_27 rfl rfl rfl ?_
        refine sw_getR (b := 1) 31 dX11_combine_28 rfl gf_RX11_12 (fun _ _ _ _ => rfl) ⟨by decide, rfl⟩ rfl ?_
        refine sw_getR (b := 5) 34 dX11_combine_31 rfl gf_RX11_127 (fun _ _ _ _ => rfl) ⟨by decide, rfl⟩ rfl ?_
        refine sw_iload_n 35 dX11_combine_34 rfl rfl rfl ?_
        refine sw_aald (b := (8 + 2 * a)) (t := 0) 36 dX11_combine_35 rfl ⟨by decide, rfl⟩ (by decide) (by assumption) (by first | assumption | rfl) ?_
        refine sw_aload_n 37 dX11_combine_36 rfl rfl rfl ?_
        refine sw_getR (b := 1) 40 dX11_combine_37 rfl gf_RX11_12 (fun _ _ _ _ => rfl) ⟨by decide, rfl⟩ rfl ?_
        refine sw_getR (b := 5) 43 dX11_combine_40 rfl gf_RX11_127 (fun _ _ _ _ => rfl) ⟨by decide, rfl⟩ rfl ?_
        refine sw_iload_n 44 dX11_combine_43 rfl rfl rfl ?_
        refine sw_aald (b := (8 + 2 * b)) (t := 0) 45 dX11_combine_44 rfl ⟨by decide, rfl⟩ (by decide) (by assumption) (by first | assumption | rfl) ?_
        refine sw_iload 47 dX11_combine_45 rfl rfl ?_
        refine sw_invVV 50 dX11_combine_47 rfl lk_RX11_345 (c_U_setProduct (s := t) isU_work (isU_now ha) (isU_now hb) (by omega) (by omega) (by omega) (by omega) ⟨hVa.1, fun i hi => (hVa.2.2 i hi).1⟩ ⟨hVb.1, fun i hi => (hVb.2.2 i hi).1⟩) ⟨by decide, rfl⟩ rfl rfl (Nat.le_of_ble_eq_true rfl) (fun h47 hq47 => ?_)
        subst hq47
        have I2 := IA_work (h2 := uH h15 60 61 (fun i => if i < 4 then zI (σ.1.2.1.2 a i + t * σ.1.2.1.2 b i) else h15.1 61 i) (zI (σ.1.2.1.1 a * σ.1.2.1.1 b))) I (fun x h1 h2 => uH_other h1 h2) rfl
        have W2 : atU (uH h15 60 61 (fun i => if i < 4 then zI (σ.1.2.1.2 a i + t * σ.1.2.1.2 b i) else h15.1 61 i) (zI (σ.1.2.1.1 a * σ.1.2.1.1 b))) 60 61 (σ.1.2.1.1 a * σ.1.2.1.1 b) (joinE σ a b t) := ⟨uH_sign isU_work, fun i hi => by rw [uH_row isU_work, if_pos hi]; rfl⟩
        generalize (uH h15 60 61 (fun i => if i < 4 then zI (σ.1.2.1.2 a i + t * σ.1.2.1.2 b i) else h15.1 61 i) (zI (σ.1.2.1.1 a * σ.1.2.1.1 b))) = g at I2 W2 ⊢
        refine sw_aload_n 51 dX11_combine_50 rfl rfl rfl ?_
        refine sw_getR (b := 60) 54 dX11_combine_51 rfl gf_RX11_45 (fun _ _ _ _ => rfl) ⟨by decide, rfl⟩ rfl ?_
        refine sw_invVI 57 dX11_combine_54 rfl lk_RX11_288 (c_U_isInRange (e := joinE σ a b t) isU_work (fun i hi => ⟨W2.2 i hi, hj i hi⟩)) ⟨by decide, rfl⟩ rfl rfl (Nat.le_of_ble_eq_true rfl) (fun r54 h54 hq54 => ?_)
        obtain ⟨rfl, rfl⟩ := hq54
        refine sw_if_ne 63 60 dX11_combine_57 (by decide) rfl (fun c57 => ?_) (fun c57 => ?_)
        · rw [ifz_eq, Decidable.not_not] at c57
          refine sw_aload_n 64 dX11_combine_63 rfl rfl rfl ?_
          refine sw_getR (b := 1) 67 dX11_combine_64 rfl gf_RX11_12 (fun _ _ _ _ => rfl) ⟨by decide, rfl⟩ rfl ?_
          refine sw_getR (b := 5) 70 dX11_combine_67 rfl gf_RX11_127 (fun _ _ _ _ => rfl) ⟨by decide, rfl⟩ rfl ?_
          refine sw_iload_n 71 dX11_combine_70 rfl rfl rfl ?_
          refine sw_aald (b := (8 + 2 * c)) (t := 0) 72 dX11_combine_71 rfl ⟨by decide, rfl⟩ (by decide) (by assumption) (by first | assumption | rfl) ?_
          refine sw_aload_n 73 dX11_combine_72 rfl rfl rfl ?_
          refine sw_getR (b := 60) 76 dX11_combine_73 rfl gf_RX11_45 (fun _ _ _ _ => rfl) ⟨by decide, rfl⟩ rfl ?_
          refine sw_invVV 79 dX11_combine_76 rfl lk_RX11_164 (c_U_copy (isU_now hc) isU_work (by omega)) (by first | assumption | exact ⟨by decide, rfl⟩) rfl rfl (Nat.le_of_ble_eq_true rfl) (fun h76 hq76 => ?_)
          subst hq76
          refine sw_iconst (v := zI 1) 80 dX11_combine_79 rfl (by decide) ?_
          exact sw_iret dX11_combine_80 rfl (by
  unfold opJoin; rw [if_pos ⟨c4, c11, c18⟩]; simp only [Int.toNat_natCast]; rw [if_pos c57]; exact ⟨IA_copyU I2 W2 hc, rfl⟩)
        · rw [ifz_eq] at c57
          refine sw_bipush (v := zI (-6)) 62 dX11_combine_60 rfl (by decide) ?_
          exact sw_iret dX11_combine_62 rfl (by
  unfold opJoin; rw [if_pos ⟨c4, c11, c18⟩]; simp only [Int.toNat_natCast]; rw [if_neg c57]; exact ⟨I2, rfl⟩)
      · refine sw_iconst (v := zI (-1)) 22 dX11_combine_21 rfl (by decide) ?_
        exact sw_iret dX11_combine_22 rfl (by
  rw [ifz_eq] at c18
  unfold opJoin; rw [if_neg (fun hh => c18 hh.2.2)]; exact ⟨I, rfl⟩)
theorem a_times (K : okS σ) (I : IA h σ) {s o to : Int} (s1 : -2147483648 ≤ s) (s2 : s < 2147483648) (o1 : -2147483648 ≤ o) (o2 : o < 2147483648) (t1 : -2147483648 ≤ to) (t2 : to < 2147483648) : sw_ct wA X l (d + 4) mX11_times [.ref 0, .int (zI s), .int (zI o), .int (zI to)] h (sw_qI wA X fun r h2 => IA h2 (opJoin σ s o to 1).2 ∧ r = zI (opJoin σ s o to 1).1) := by
  refine sw_ct_of (by decide +kernel) (Nat.le_of_ble_eq_true rfl) rfl ?_
  refine sw_aload_n 1 dX11_times_0 rfl rfl rfl ?_
  refine sw_iload_n 2 dX11_times_1 rfl rfl rfl ?_
  refine sw_iload_n 3 dX11_times_2 rfl rfl rfl ?_
  refine sw_iload_n 4 dX11_times_3 rfl rfl rfl ?_
  refine sw_iconst (v := zI 1) 5 dX11_times_4 rfl (by decide) ?_
  refine sw_invVI 8 dX11_times_5 rfl lk_RX11_156 (a_combine K I s1 s2 o1 o2 t1 t2 (Or.inl rfl)) ⟨by decide, rfl⟩ rfl rfl (Nat.le_of_ble_eq_true rfl) (fun r5 h5 hq5 => ?_)
  skip
  exact sw_iret dX11_times_8 rfl (hq5)
theorem a_over (K : okS σ) (I : IA h σ) {s o to : Int} (s1 : -2147483648 ≤ s) (s2 : s < 2147483648) (o1 : -2147483648 ≤ o) (o2 : o < 2147483648) (t1 : -2147483648 ≤ to) (t2 : to < 2147483648) : sw_ct wA X l (d + 4) mX11_over [.ref 0, .int (zI s), .int (zI o), .int (zI to)] h (sw_qI wA X fun r h2 => IA h2 (opJoin σ s o to (-1)).2 ∧ r = zI (opJoin σ s o to (-1)).1) := by
  refine sw_ct_of (by decide +kernel) (Nat.le_of_ble_eq_true rfl) rfl ?_
  refine sw_aload_n 1 dX11_over_0 rfl rfl rfl ?_
  refine sw_iload_n 2 dX11_over_1 rfl rfl rfl ?_
  refine sw_iload_n 3 dX11_over_2 rfl rfl rfl ?_
  refine sw_iload_n 4 dX11_over_3 rfl rfl rfl ?_
  refine sw_iconst (v := zI (-1)) 5 dX11_over_4 rfl (by decide) ?_
  refine sw_invVI 8 dX11_over_5 rfl lk_RX11_156 (a_combine K I s1 s2 o1 o2 t1 t2 (Or.inr rfl)) ⟨by decide, rfl⟩ rfl rfl (Nat.le_of_ble_eq_true rfl) (fun r5 h5 hq5 => ?_)
  skip
  exact sw_iret dX11_over_8 rfl (hq5)
/-- a partner in work, both as a sum in split -/
theorem a_hasPartner (K : okS σ) (I : IA h σ) {s : Nat} (hs : s < 4) : sw_ct wA X l (d + 3) mX11_hasPartner [.ref 0, .ref (8 + 2 * s)] h (sw_qI wA X fun r h2 => IA h2 σ ∧ r = bI (mtOK σ s) ∧ atP h2 62 (shA0 σ s) (shB0 σ s) (shB0 σ s - shA0 σ s) ∧ (mtOK σ s = true → atU h2 60 61 (frS (shB0 σ s - shA0 σ s)) (frU σ.1.1.1 σ.1.1.2.1 (shB0 σ s - shA0 σ s) (shB0 σ s)))) := by
  have V := IA_B K I
  have hn := V.2.1
  have hU := isU_now hs
  have hV := IA_U K I hs
  have hU1 := hU.1
  have b9 := shAB_b K hs
  have V3 : ∀ h2 : sw_H, h2.1 = h.1 → atB h2 2 3 4 σ.1.1.1 σ.1.1.2.1 σ.1.1.2.2 := fun h2 e => by unfold atB; rw [e]; exact V
  refine sw_ct_of (by decide +kernel) (Nat.le_of_ble_eq_true rfl) rfl ?_
  have eA : σ.1.2.1.1 s * sideZ σ.1.1.2.1 (σ.1.2.1.2 s) 1 σ.1.1.1 = shA0 σ s := rfl
  have eB : sideZ σ.1.1.2.1 (σ.1.2.1.2 s) (-1) σ.1.1.1 = shB0 σ s := rfl
  refine sw_aload_n 1 dX11_hasPartner_0 rfl rfl rfl ?_
  refine sw_getR (b := 62) 4 dX11_hasPartner_1 rfl gf_RX11_52 (fun _ _ _ _ => rfl) ⟨by decide, rfl⟩ rfl ?_
  refine sw_aload_n 5 dX11_hasPartner_4 rfl rfl rfl ?_
  refine sw_aload_n 6 dX11_hasPartner_5 rfl rfl rfl ?_
  refine sw_getR (b := 1) 9 dX11_hasPartner_6 rfl gf_RX11_12 (fun _ _ _ _ => rfl) ⟨by decide, rfl⟩ rfl ?_
  refine sw_getR (b := 2) 12 dX11_hasPartner_9 rfl gf_RX11_86 (fun _ _ _ _ => rfl) ⟨by decide, rfl⟩ rfl ?_
  refine sw_invVL 15 dX11_hasPartner_12 rfl lk_RX11_142 (c_U_above (e := σ.1.2.1.2 s) hU isB_now V (fun i hi => ⟨(hV.2.2 i (by omega)).1, by have := (hV.2.2 i (by omega)).2; omega⟩) hV.1 hV.2.1) (by first | assumption | exact ⟨by decide, rfl⟩) rfl rfl (Nat.le_of_ble_eq_true rfl) (fun r12 h12 hq12 => ?_)
  obtain ⟨rfl, rfl⟩ := hq12
  refine sw_aload_n 16 dX11_hasPartner_15 rfl rfl rfl ?_
  refine sw_aload_n 17 dX11_hasPartner_16 rfl rfl rfl ?_
  refine sw_getR (b := 1) 20 dX11_hasPartner_17 rfl gf_RX11_12 (fun _ _ _ _ => rfl) ⟨by decide, rfl⟩ rfl ?_
  refine sw_getR (b := 2) 23 dX11_hasPartner_20 rfl gf_RX11_86 (fun _ _ _ _ => rfl) ⟨by decide, rfl⟩ rfl ?_
  refine sw_invVL 26 dX11_hasPartner_23 rfl lk_RX11_146 (c_U_below (e := σ.1.2.1.2 s) hU isB_now V (fun i hi => ⟨(hV.2.2 i (by omega)).1, by have := (hV.2.2 i (by omega)).2; omega⟩)) (by first | assumption | exact ⟨by decide, rfl⟩) rfl rfl (Nat.le_of_ble_eq_true rfl) (fun r23 h23 hq23 => ?_)
  obtain ⟨rfl, rfl⟩ := hq23
  rw [eA, eB]
  refine sw_invVV 29 dX11_hasPartner_26 rfl lk_RX11_349 (c_P_set ⟨by decide, rfl⟩) ⟨by decide, rfl⟩ rfl rfl (Nat.le_of_ble_eq_true rfl) (fun h26 hq26 => ?_)
  subst hq26
  have P1 : atP (sw_wL (sw_wL (sw_wL h23 62 0 (zL (shA0 σ s))) 62 1 (zL (shB0 σ s))) 62 2 (zL (shB0 σ s - shA0 σ s))) 62 (shA0 σ s) (shB0 σ s) (shB0 σ s - shA0 σ s) := by
    refine ⟨?_, ?_, ?_⟩ <;> (rw [sw_wL_at, sw_wL_at, sw_wL_at]; simp [va_up])
  have I2 : IA (sw_wL (sw_wL (sw_wL h23 62 0 (zL (shA0 σ s))) 62 1 (zL (shB0 σ s))) 62 2 (zL (shB0 σ s - shA0 σ s))) σ := IA_side I (fun a ha => ⟨rfl, by
    have : a ≠ 62 := fun e => ha (by subst e; unfold sideC; omega)
    rw [sw_wL_ne this, sw_wL_ne this, sw_wL_ne this]⟩)
  have V4 := V3 (sw_wL (sw_wL (sw_wL h23 62 0 (zL (shA0 σ s))) 62 1 (zL (shB0 σ s))) 62 2 (zL (shB0 σ s - shA0 σ s))) rfl
  generalize (sw_wL (sw_wL (sw_wL h23 62 0 (zL (shA0 σ s))) 62 1 (zL (shB0 σ s))) 62 2 (zL (shB0 σ s - shA0 σ s))) = g at P1 I2 V4 ⊢
  refine sw_aload_n 30 dX11_hasPartner_29 rfl rfl rfl ?_
  refine sw_getR (b := 60) 33 dX11_hasPartner_30 rfl gf_RX11_45 (fun _ _ _ _ => rfl) ⟨by decide, rfl⟩ rfl ?_
  refine sw_aload_n 34 dX11_hasPartner_33 rfl rfl rfl ?_
  refine sw_getR (b := 1) 37 dX11_hasPartner_34 rfl gf_RX11_12 (fun _ _ _ _ => rfl) ⟨by decide, rfl⟩ rfl ?_
  refine sw_getR (b := 2) 40 dX11_hasPartner_37 rfl gf_RX11_86 (fun _ _ _ _ => rfl) ⟨by decide, rfl⟩ rfl ?_
  refine sw_aload_n 41 dX11_hasPartner_40 rfl rfl rfl ?_
  refine sw_getR (b := 62) 44 dX11_hasPartner_41 rfl gf_RX11_52 (fun _ _ _ _ => rfl) ⟨by decide, rfl⟩ rfl ?_
  refine sw_getL 47 dX11_hasPartner_44 rfl gf_RX11_353 rfl ⟨by decide, rfl⟩ ?_
  refine sw_aload_n 48 dX11_hasPartner_47 rfl rfl rfl ?_
  refine sw_getR (b := 62) 51 dX11_hasPartner_48 rfl gf_RX11_52 (fun _ _ _ _ => rfl) ⟨by decide, rfl⟩ rfl ?_
  refine sw_getL 54 dX11_hasPartner_51 rfl gf_RX11_357 rfl ⟨by decide, rfl⟩ ?_
  rw [P1.2.1, P1.2.2]
  refine sw_invVI 57 dX11_hasPartner_54 rfl lk_RX11_175 (c_frac V4 (by omega) (by omega) (by omega) (by omega)) ⟨by decide, rfl⟩ rfl rfl (Nat.le_of_ble_eq_true rfl) (fun r54 h54 hq54 => ?_)
  obtain ⟨q1, q2, rfl, q4⟩ := hq54
  exact sw_zret (bI_01 _) dX11_hasPartner_57 rfl (⟨IA_work I2 q1 q2, rfl, by unfold atP; rw [q2]; exact P1, q4⟩)
theorem a_partner (K : okS σ) (I : IA h σ) {s to : Int} (s1 : -2147483648 ≤ s) (s2 : s < 2147483648) (t1 : -2147483648 ≤ to) (t2 : to < 2147483648) : sw_ct wA X l (d + 4) mX11_partner [.ref 0, .int (zI s), .int (zI to)] h (sw_qI wA X fun r h2 => IA h2 (opPartner σ s to).2 ∧ r = zI (opPartner σ s to).1) := by
  refine sw_ct_of (by decide +kernel) (Nat.le_of_ble_eq_true rfl) rfl ?_
  refine sw_iload_n 1 dX11_partner_0 rfl rfl rfl ?_
  refine sw_invSI 4 dX11_partner_1 rfl lk_RX11_124 (c_isShelf s1 s2) rfl rfl (Nat.le_of_ble_eq_true rfl) (fun r1 h1 hq1 => ?_)
  obtain ⟨rfl, rfl⟩ := hq1
  refine sw_if_eq 14 7 dX11_partner_4 (by decide) rfl (fun c4 => ?_) (fun c4 => ?_)
  · refine sw_iconst (v := zI (-1)) 15 dX11_partner_14 rfl (by decide) ?_
    exact sw_iret dX11_partner_15 rfl (by
  rw [ifz_eq] at c4
  unfold opPartner; rw [if_neg (fun hh => c4 hh.1)]; exact ⟨I, rfl⟩)
  · rw [ifz_eq, Decidable.not_not] at c4
    refine sw_iload_n 8 dX11_partner_7 rfl rfl rfl ?_
    refine sw_invSI 11 dX11_partner_8 rfl lk_RX11_124 (c_isShelf t1 t2) rfl rfl (Nat.le_of_ble_eq_true rfl) (fun r8 h8 hq8 => ?_)
    obtain ⟨rfl, rfl⟩ := hq8
    refine sw_if_ne 16 14 dX11_partner_11 (by decide) rfl (fun c11 => ?_) (fun c11 => ?_)
    · rw [ifz_eq, Decidable.not_not] at c11
      obtain ⟨a, rfl⟩ := Int.eq_ofNat_of_zero_le c4.1
      obtain ⟨c, rfl⟩ := Int.eq_ofNat_of_zero_le c11.1
      have ha : a < 4 := by omega
      have hc : c < 4 := by omega
      have hin1 := zI_inN (a := a) (n := 4) ha (by decide)
      have hin3 := zI_inN (a := c) (n := 4) hc (by decide)
      have hrf1 := rf_now ha
      have hrf3 := rf_now hc
      have hU1 := (isU_now ha).1
      have hU3 := (isU_now hc).1
      refine sw_aload_n 17 dX11_partner_16 rfl rfl rfl ?_
      refine sw_aload_n 18 dX11_partner_17 rfl rfl rfl ?_
      refine sw_getR (b := 1) 21 dX11_partner_18 rfl gf_RX11_12 (fun _ _ _ _ => rfl) ⟨by decide, rfl⟩ rfl ?_
      refine sw_getR (b := 5) 24 dX11_partner_21 rfl gf_RX11_127 (fun _ _ _ _ => rfl) ⟨by decide, rfl⟩ rfl ?_
      refine sw_iload_n 25 dX11_partner_24 rfl rfl rfl ?_
      refine sw_aald (b := (8 + 2 * a)) (t := 0) 26 dX11_partner_25 rfl ⟨by decide, rfl⟩ (by decide) (by assumption) (by first | assumption | rfl) ?_
      refine sw_invVI 29 dX11_partner_26 rfl lk_RX11_160 (a_hasPartner K I ha) ⟨by decide, rfl⟩ rfl rfl (Nat.le_of_ble_eq_true rfl) (fun r26 h26 hq26 => ?_)
      obtain ⟨I2, rfl, -, W2⟩ := hq26
      refine sw_if_ne 35 32 dX11_partner_29 (by decide) rfl (fun c29 => ?_) (fun c29 => ?_)
      · rw [bIz_eq, Bool.not_eq_false] at c29
        refine sw_aload_n 36 dX11_partner_35 rfl rfl rfl ?_
        refine sw_getR (b := 1) 39 dX11_partner_36 rfl gf_RX11_12 (fun _ _ _ _ => rfl) ⟨by decide, rfl⟩ rfl ?_
        refine sw_getR (b := 5) 42 dX11_partner_39 rfl gf_RX11_127 (fun _ _ _ _ => rfl) ⟨by decide, rfl⟩ rfl ?_
        refine sw_iload_n 43 dX11_partner_42 rfl rfl rfl ?_
        refine sw_aald (b := (8 + 2 * c)) (t := 0) 44 dX11_partner_43 rfl ⟨by decide, rfl⟩ (by decide) (by assumption) (by first | assumption | rfl) ?_
        refine sw_aload_n 45 dX11_partner_44 rfl rfl rfl ?_
        refine sw_getR (b := 60) 48 dX11_partner_45 rfl gf_RX11_45 (fun _ _ _ _ => rfl) ⟨by decide, rfl⟩ rfl ?_
        refine sw_invVV 51 dX11_partner_48 rfl lk_RX11_164 (c_U_copy (isU_now hc) isU_work (by omega)) (by first | assumption | exact ⟨by decide, rfl⟩) rfl rfl (Nat.le_of_ble_eq_true rfl) (fun h48 hq48 => ?_)
        subst hq48
        refine sw_iconst (v := zI 1) 52 dX11_partner_51 rfl (by decide) ?_
        exact sw_iret dX11_partner_52 rfl (by
  unfold opPartner; rw [if_pos ⟨c4, c11⟩, if_pos (show mtOK σ ((a : Nat) : Int).toNat = true from c29)]; exact ⟨IA_copyU I2 (W2 c29) hc, rfl⟩)
      · rw [bIz_eq] at c29
        refine sw_bipush (v := zI (-5)) 34 dX11_partner_32 rfl (by decide) ?_
        exact sw_iret dX11_partner_34 rfl (by
  unfold opPartner; rw [if_pos ⟨c4, c11⟩, if_neg (by rw [show mtOK σ ((a : Nat) : Int).toNat = false from c29]; decide)]; exact ⟨I2, rfl⟩)
    · refine sw_iconst (v := zI (-1)) 15 dX11_partner_14 rfl (by decide) ?_
      exact sw_iret dX11_partner_15 rfl (by
  rw [ifz_eq] at c11
  unfold opPartner; rw [if_neg (fun hh => c11 hh.2)]; exact ⟨I, rfl⟩)
theorem a_form (K : okS σ) (I : IA h σ) {s k to : Int} (s1 : -2147483648 ≤ s) (s2 : s < 2147483648) (k1 : -2147483648 ≤ k) (k2 : k < 2147483648) (t1 : -2147483648 ≤ to) (t2 : to < 2147483648) : sw_ct wA X l (d + 4) mX11_form [.ref 0, .int (zI s), .int (zI k), .int (zI to)] h (sw_qI wA X fun r h2 => IA h2 (opForm σ s k to).2 ∧ r = zI (opForm σ s k to).1) := by
  refine sw_ct_of (by decide +kernel) (Nat.le_of_ble_eq_true rfl) rfl ?_
  refine sw_iload_n 1 dX11_form_0 rfl rfl rfl ?_
  refine sw_invSI 4 dX11_form_1 rfl lk_RX11_124 (c_isShelf s1 s2) rfl rfl (Nat.le_of_ble_eq_true rfl) (fun r1 h1 hq1 => ?_)
  obtain ⟨rfl, rfl⟩ := hq1
  refine sw_if_eq 24 7 dX11_form_4 (by decide) rfl (fun c4 => ?_) (fun c4 => ?_)
  · refine sw_iconst (v := zI (-1)) 25 dX11_form_24 rfl (by decide) ?_
    exact sw_iret dX11_form_25 rfl (by
  rw [ifz_eq] at c4
  unfold opForm; rw [if_neg (fun hh => c4 hh.1)]; exact ⟨I, rfl⟩)
  · rw [ifz_eq, Decidable.not_not] at c4
    refine sw_iload_n 8 dX11_form_7 rfl rfl rfl ?_
    refine sw_invSI 11 dX11_form_8 rfl lk_RX11_124 (c_isShelf t1 t2) rfl rfl (Nat.le_of_ble_eq_true rfl) (fun r8 h8 hq8 => ?_)
    obtain ⟨rfl, rfl⟩ := hq8
    refine sw_if_eq 24 14 dX11_form_11 (by decide) rfl (fun c11 => ?_) (fun c11 => ?_)
    · refine sw_iconst (v := zI (-1)) 25 dX11_form_24 rfl (by decide) ?_
      exact sw_iret dX11_form_25 rfl (by
  rw [ifz_eq] at c11
  unfold opForm; rw [if_neg (fun hh => c11 hh.2.1)]; exact ⟨I, rfl⟩)
    · rw [ifz_eq, Decidable.not_not] at c11
      refine sw_iload_n 15 dX11_form_14 rfl rfl rfl ?_
      refine sw_if_lt 24 18 dX11_form_15 (by decide) rfl (fun c15 => ?_) (fun c15 => ?_)
      · refine sw_iconst (v := zI (-1)) 25 dX11_form_24 rfl (by decide) ?_
        exact sw_iret dX11_form_25 rfl (by
  rw [z0, zI_lt (by omega) (by omega) (by omega) (by omega)] at c15
  unfold opForm; rw [if_neg (by omega)]; exact ⟨I, rfl⟩)
      · rw [z0, zI_lt (by omega) (by omega) (by omega) (by omega)] at c15
        refine sw_iload_n 19 dX11_form_18 rfl rfl rfl ?_
        refine sw_bipush (v := zI 6) 21 dX11_form_19 rfl (by decide) ?_
        refine sw_icmp_lt 26 24 dX11_form_21 (by decide) rfl (fun c21 => ?_) (fun c21 => ?_)
        · rw [zI_lt (by omega) (by omega) (by omega) (by omega)] at c21
          obtain ⟨a, rfl⟩ := Int.eq_ofNat_of_zero_le c4.1
          obtain ⟨c, rfl⟩ := Int.eq_ofNat_of_zero_le c11.1
          obtain ⟨m, rfl⟩ := Int.eq_ofNat_of_zero_le (show 0 ≤ k by omega)
          have ha : a < 4 := by omega
          have hc : c < 4 := by omega
          have hm : m < 6 := by omega
          have hin1 := zI_inN (a := a) (n := 4) ha (by decide)
          have hin3 := zI_inN (a := c) (n := 4) hc (by decide)
          have hrf1 := rf_now ha
          have hrf3 := rf_now hc
          have hU1 := (isU_now ha).1
          have hU3 := (isU_now hc).1
          have b9 := shAB_b K ha
          refine sw_aload_n 27 dX11_form_26 rfl rfl rfl ?_
          refine sw_aload_n 28 dX11_form_27 rfl rfl rfl ?_
          refine sw_getR (b := 1) 31 dX11_form_28 rfl gf_RX11_12 (fun _ _ _ _ => rfl) ⟨by decide, rfl⟩ rfl ?_
          refine sw_getR (b := 5) 34 dX11_form_31 rfl gf_RX11_127 (fun _ _ _ _ => rfl) ⟨by decide, rfl⟩ rfl ?_
          refine sw_iload_n 35 dX11_form_34 rfl rfl rfl ?_
          refine sw_aald (b := (8 + 2 * a)) (t := 0) 36 dX11_form_35 rfl ⟨by decide, rfl⟩ (by decide) (by assumption) (by first | assumption | rfl) ?_
          refine sw_invVI 39 dX11_form_36 rfl lk_RX11_160 (a_hasPartner K I ha) ⟨by decide, rfl⟩ rfl rfl (Nat.le_of_ble_eq_true rfl) (fun r36 h36 hq36 => ?_)
          obtain ⟨I2, rfl, P2, W2⟩ := hq36
          refine sw_if_ne 45 42 dX11_form_39 (by decide) rfl (fun c39 => ?_) (fun c39 => ?_)
          · rw [bIz_eq, Bool.not_eq_false] at c39
            have hC : ¬ shB0 σ a - shA0 σ a = 0 := by
              unfold mtOK frOK at c39
              exact (of_decide_eq_true c39).1
            have fb := form_b (a := shA0 σ a) (b := shB0 σ a) (c := shB0 σ a - shA0 σ a) (by omega) (by omega) (by omega) m
            have fp : 0 < fmB σ a m := by
              unfold fmB formB
              rcases rawB_b (a := shA0 σ a) (b := shB0 σ a) (c := shB0 σ a - shA0 σ a) m with e | e | e <;> rw [e] <;> omega
            have V2 := IA_B K I2
            have eA : formA (shA0 σ a) (shB0 σ a) (shB0 σ a - shA0 σ a) m = fmA σ a m := rfl
            have eB : formB (shA0 σ a) (shB0 σ a) (shB0 σ a - shA0 σ a) m = fmB σ a m := rfl
            rw [eA, eB] at fb
            refine sw_aload_n 46 dX11_form_45 rfl rfl rfl ?_
            refine sw_getR (b := 60) 49 dX11_form_46 rfl gf_RX11_45 (fun _ _ _ _ => rfl) ⟨by decide, rfl⟩ rfl ?_
            refine sw_aload_n 50 dX11_form_49 rfl rfl rfl ?_
            refine sw_getR (b := 1) 53 dX11_form_50 rfl gf_RX11_12 (fun _ _ _ _ => rfl) ⟨by decide, rfl⟩ rfl ?_
            refine sw_getR (b := 2) 56 dX11_form_53 rfl gf_RX11_86 (fun _ _ _ _ => rfl) ⟨by decide, rfl⟩ rfl ?_
            refine sw_aload_n 57 dX11_form_56 rfl rfl rfl ?_
            refine sw_getR (b := 62) 60 dX11_form_57 rfl gf_RX11_52 (fun _ _ _ _ => rfl) ⟨by decide, rfl⟩ rfl ?_
            refine sw_iload_n 61 dX11_form_60 rfl rfl rfl ?_
            refine sw_invVL 64 dX11_form_61 rfl lk_RX11_168 (c_P_formAbove ⟨by decide, rfl⟩ P2 (by omega) (by omega) (by omega) hm) ⟨by decide, rfl⟩ rfl rfl (Nat.le_of_ble_eq_true rfl) (fun r61 h61 hq61 => ?_)
            obtain ⟨rfl, rfl⟩ := hq61
            refine sw_aload_n 65 dX11_form_64 rfl rfl rfl ?_
            refine sw_getR (b := 62) 68 dX11_form_65 rfl gf_RX11_52 (fun _ _ _ _ => rfl) ⟨by decide, rfl⟩ rfl ?_
            refine sw_iload_n 69 dX11_form_68 rfl rfl rfl ?_
            refine sw_invVL 72 dX11_form_69 rfl lk_RX11_172 (c_P_formBelow ⟨by decide, rfl⟩ P2 (by omega) (by omega) (by omega) hm) ⟨by decide, rfl⟩ rfl rfl (Nat.le_of_ble_eq_true rfl) (fun r69 h69 hq69 => ?_)
            obtain ⟨rfl, rfl⟩ := hq69
            rw [eA, eB]
            refine sw_invVI 75 dX11_form_72 rfl lk_RX11_175 (c_frac V2 (by omega) (by omega) fp (by omega)) ⟨by decide, rfl⟩ rfl rfl (Nat.le_of_ble_eq_true rfl) (fun r72 h72 hq72 => ?_)
            obtain ⟨q1, q2, rfl, q4⟩ := hq72
            have I3 := IA_work I2 q1 q2
            refine sw_if_ne 81 78 dX11_form_75 (by decide) rfl (fun c75 => ?_) (fun c75 => ?_)
            · rw [bIz_eq, Bool.not_eq_false] at c75
              refine sw_aload_n 82 dX11_form_81 rfl rfl rfl ?_
              refine sw_getR (b := 1) 85 dX11_form_82 rfl gf_RX11_12 (fun _ _ _ _ => rfl) ⟨by decide, rfl⟩ rfl ?_
              refine sw_getR (b := 5) 88 dX11_form_85 rfl gf_RX11_127 (fun _ _ _ _ => rfl) ⟨by decide, rfl⟩ rfl ?_
              refine sw_iload_n 89 dX11_form_88 rfl rfl rfl ?_
              refine sw_aald (b := (8 + 2 * c)) (t := 0) 90 dX11_form_89 rfl ⟨by decide, rfl⟩ (by decide) (by assumption) (by first | assumption | rfl) ?_
              refine sw_aload_n 91 dX11_form_90 rfl rfl rfl ?_
              refine sw_getR (b := 60) 94 dX11_form_91 rfl gf_RX11_45 (fun _ _ _ _ => rfl) ⟨by decide, rfl⟩ rfl ?_
              refine sw_invVV 97 dX11_form_94 rfl lk_RX11_164 (c_U_copy (isU_now hc) isU_work (by omega)) (by first | assumption | exact ⟨by decide, rfl⟩) rfl rfl (Nat.le_of_ble_eq_true rfl) (fun h94 hq94 => ?_)
              subst hq94
              refine sw_iconst (v := zI 1) 98 dX11_form_97 rfl (by decide) ?_
              exact sw_iret dX11_form_98 rfl (by
  unfold opForm; rw [if_pos ⟨c4, c11, by omega⟩, if_pos (show mtOK σ ((a : Nat) : Int).toNat = true from c39), if_pos (show frOK σ.1.1.1 σ.1.1.2.1 (fmA σ ((a : Nat) : Int).toNat ((m : Nat) : Int).toNat) (fmB σ ((a : Nat) : Int).toNat ((m : Nat) : Int).toNat) = true from c75)]; exact ⟨IA_copyU I3 (q4 c75) hc, rfl⟩)
            · rw [bIz_eq] at c75
              refine sw_bipush (v := zI (-5)) 80 dX11_form_78 rfl (by decide) ?_
              exact sw_iret dX11_form_80 rfl (by
  unfold opForm; rw [if_pos ⟨c4, c11, by omega⟩, if_pos (show mtOK σ ((a : Nat) : Int).toNat = true from c39), if_neg (by rw [show frOK σ.1.1.1 σ.1.1.2.1 (fmA σ ((a : Nat) : Int).toNat ((m : Nat) : Int).toNat) (fmB σ ((a : Nat) : Int).toNat ((m : Nat) : Int).toNat) = false from c75]; decide)]; exact ⟨I3, rfl⟩)
          · rw [bIz_eq] at c39
            refine sw_bipush (v := zI (-5)) 44 dX11_form_42 rfl (by decide) ?_
            exact sw_iret dX11_form_44 rfl (by
  unfold opForm; rw [if_pos ⟨c4, c11, by omega⟩, if_neg (by rw [show mtOK σ ((a : Nat) : Int).toNat = false from c39]; decide)]; exact ⟨I2, rfl⟩)
        · refine sw_iconst (v := zI (-1)) 25 dX11_form_24 rfl (by decide) ?_
          exact sw_iret dX11_form_25 rfl (by
  rw [zI_lt (by omega) (by omega) (by omega) (by omega)] at c21
  unfold opForm; rw [if_neg (by omega)]; exact ⟨I, rfl⟩)
theorem a_forms (K : okS σ) (I : IA h σ) {s : Int} (s1 : -2147483648 ≤ s) (s2 : s < 2147483648) : sw_ct wA X l (d + 4) mX11_forms [.ref 0, .int (zI s)] h (sw_qI wA X fun r h2 => IA h2 σ ∧ r = zI (opForms σ s)) := by
  refine sw_ct_of (by decide +kernel) (Nat.le_of_ble_eq_true rfl) rfl ?_
  refine sw_iload_n 1 dX11_forms_0 rfl rfl rfl ?_
  refine sw_invSI 4 dX11_forms_1 rfl lk_RX11_124 (c_isShelf s1 s2) rfl rfl (Nat.le_of_ble_eq_true rfl) (fun r1 h1 hq1 => ?_)
  obtain ⟨rfl, rfl⟩ := hq1
  refine sw_if_ne 9 7 dX11_forms_4 (by decide) rfl (fun c4 => ?_) (fun c4 => ?_)
  · rw [ifz_eq, Decidable.not_not] at c4
    obtain ⟨a, rfl⟩ := Int.eq_ofNat_of_zero_le c4.1
    have ha : a < 4 := by omega
    have hin1 := zI_inN (a := a) (n := 4) ha (by decide)
    have hrf1 := rf_now ha
    have hU1 := (isU_now ha).1
    have b9 := shAB_b K ha
    refine sw_aload_n 10 dX11_forms_9 rfl rfl rfl ?_
    refine sw_aload_n 11 dX11_forms_10 rfl rfl rfl ?_
    refine sw_getR (b := 1) 14 dX11_forms_11 rfl gf_RX11_12 (fun _ _ _ _ => rfl) ⟨by decide, rfl⟩ rfl ?_
    refine sw_getR (b := 5) 17 dX11_forms_14 rfl gf_RX11_127 (fun _ _ _ _ => rfl) ⟨by decide, rfl⟩ rfl ?_
    refine sw_iload_n 18 dX11_forms_17 rfl rfl rfl ?_
    refine sw_aald (b := (8 + 2 * a)) (t := 0) 19 dX11_forms_18 rfl ⟨by decide, rfl⟩ (by decide) (by assumption) (by first | assumption | rfl) ?_
    refine sw_invVI 22 dX11_forms_19 rfl lk_RX11_160 (a_hasPartner K I ha) ⟨by decide, rfl⟩ rfl rfl (Nat.le_of_ble_eq_true rfl) (fun r19 h19 hq19 => ?_)
    obtain ⟨I2, rfl, P2, W2⟩ := hq19
    refine sw_if_eq 35 25 dX11_forms_22 (by decide) rfl (fun c22 => ?_) (fun c22 => ?_)
    · rw [bIz_eq] at c22
      refine sw_bipush (v := zI (-5)) 37 dX11_forms_35 rfl (by decide) ?_
      exact sw_iret dX11_forms_37 rfl (by
  unfold opForms; rw [if_pos c4, if_neg (by rw [show mtOK σ ((a : Nat) : Int).toNat = false from c22]; decide)]; exact ⟨I2, rfl⟩)
    · rw [bIz_eq, Bool.not_eq_false] at c22
      refine sw_aload_n 26 dX11_forms_25 rfl rfl rfl ?_
      refine sw_getR (b := 62) 29 dX11_forms_26 rfl gf_RX11_52 (fun _ _ _ _ => rfl) ⟨by decide, rfl⟩ rfl ?_
      refine sw_invVI 32 dX11_forms_29 rfl lk_RX11_179 (c_P_unlikeForms ⟨by decide, rfl⟩ P2 (by omega) (by omega) (by omega)) ⟨by decide, rfl⟩ rfl rfl (Nat.le_of_ble_eq_true rfl) (fun r29 h29 hq29 => ?_)
      obtain ⟨rfl, rfl⟩ := hq29
      refine sw_goto 37 dX11_forms_32 (by decide) ?_
      exact sw_iret dX11_forms_37 rfl (by
  unfold opForms; rw [if_pos c4, if_pos (show mtOK σ ((a : Nat) : Int).toNat = true from c22)]; exact ⟨I2, rfl⟩)
  · refine sw_iconst (v := zI (-1)) 8 dX11_forms_7 rfl (by decide) ?_
    exact sw_iret dX11_forms_8 rfl (by
  rw [ifz_eq] at c4
  unfold opForms; rw [if_neg c4]; exact ⟨I, rfl⟩)
theorem a_howManyPairs (K : okS σ) (I : IA h σ) : sw_ct wA X l (d + 4) mX11_howManyPairs [.ref 0] h (sw_qI wA X fun r h2 => IA h2 σ ∧ r = zI (pairsN σ 4)) := by
  refine sw_ct_of (by decide +kernel) (Nat.le_of_ble_eq_true rfl) rfl ?_
  have loop : ∀ (c j : Nat) (g : sw_H), j + c = 4 → IA g σ → sw_wp wA X l (d + 4) mX11_howManyPairs (sw_qI wA X fun r h2 => IA h2 σ ∧ r = zI (pairsN σ 4)) 4 [(0, .ref 0), (1, .int (zI (pairsN σ j))), (2, .int (zI j))] [] g := by
    intro c
    induction c with
    | zero =>
      intro j g hj Ig
      have : j = 4 := by omega
      subst this
      refine sw_iload_n 5 dX11_howManyPairs_4 rfl rfl rfl ?_
      refine sw_iconst (v := zI 4) 6 dX11_howManyPairs_5 rfl (by decide) ?_
      refine sw_icmp_ge 34 9 dX11_howManyPairs_6 (by decide) rfl (fun c6 => ?_) (fun c6 => ?_)
      · refine sw_iload_n 35 dX11_howManyPairs_34 rfl rfl rfl ?_
        exact sw_iret dX11_howManyPairs_35 rfl (⟨Ig, rfl⟩)
      · exact absurd (Int32.le_refl _) c6
    | succ c ih =>
      intro j g hj Ig
      have ha : j < 4 := by omega
      have hin1 := zI_inN (a := j) (n := 4) ha (by decide)
      have hrf1 := rf_now ha
      have hU1 := (isU_now ha).1
      have e9 : pairsN σ (j + 1) = pairsN σ j + if mtOK σ j then 1 else 0 := rfl
      refine sw_iload_n 5 dX11_howManyPairs_4 rfl rfl rfl ?_
      refine sw_iconst (v := zI 4) 6 dX11_howManyPairs_5 rfl (by decide) ?_
      refine sw_icmp_ge 34 9 dX11_howManyPairs_6 (by decide) rfl (fun c6 => ?_) (fun c6 => ?_)
      · exact absurd c6 (by rw [zI_le (by omega) (by omega) (by omega) (by omega)]; omega)
      · refine sw_aload_n 10 dX11_howManyPairs_9 rfl rfl rfl ?_
        refine sw_aload_n 11 dX11_howManyPairs_10 rfl rfl rfl ?_
        refine sw_getR (b := 1) 14 dX11_howManyPairs_11 rfl gf_RX11_12 (fun _ _ _ _ => rfl) ⟨by decide, rfl⟩ rfl ?_
        refine sw_getR (b := 5) 17 dX11_howManyPairs_14 rfl gf_RX11_127 (fun _ _ _ _ => rfl) ⟨by decide, rfl⟩ rfl ?_
        refine sw_iload_n 18 dX11_howManyPairs_17 rfl rfl rfl ?_
        refine sw_aald (b := (8 + 2 * j)) (t := 0) 19 dX11_howManyPairs_18 rfl ⟨by decide, rfl⟩ (by decide) (by assumption) (by first | assumption | rfl) ?_
        refine sw_invVI 22 dX11_howManyPairs_19 rfl lk_RX11_160 (a_hasPartner K Ig ha) ⟨by decide, rfl⟩ rfl rfl (Nat.le_of_ble_eq_true rfl) (fun r19 h19 hq19 => ?_)
        obtain ⟨I2, rfl, P2, W2⟩ := hq19
        have i9 := ih (j + 1) h19 (by omega) I2
        refine sw_if_eq 28 25 dX11_howManyPairs_22 (by decide) rfl (fun c22 => ?_) (fun c22 => ?_)
        · refine sw_iinc (v := zI 1) (lc' := [(0, _), (1, _), (2, _)]) 31 dX11_howManyPairs_28 rfl (by decide) rfl rfl rfl ?_
          refine sw_goto 4 dX11_howManyPairs_31 (by decide) ?_
          rw [bIz_eq] at c22
          rw [e9, if_neg (by rw [c22]; decide), Nat.add_zero] at i9
          simp only [zI_add]
          exact i9
        · refine sw_iinc (v := zI 1) (lc' := [(0, _), (1, _), (2, _)]) 28 dX11_howManyPairs_25 rfl (by decide) rfl rfl rfl ?_
          refine sw_iinc (v := zI 1) (lc' := [(0, _), (1, _), (2, _)]) 31 dX11_howManyPairs_28 rfl (by decide) rfl rfl rfl ?_
          refine sw_goto 4 dX11_howManyPairs_31 (by decide) ?_
          rw [bIz_eq, Bool.not_eq_false] at c22
          rw [e9, if_pos c22] at i9
          simp only [zI_add]
          exact i9
  refine sw_iconst (v := zI 0) 1 dX11_howManyPairs_0 rfl (by decide) ?_
  refine sw_istore_n (lc' := [(0, _), (1, _)]) 2 dX11_howManyPairs_1 rfl rfl (by decide) rfl ?_
  refine sw_iconst (v := zI 0) 3 dX11_howManyPairs_2 rfl (by decide) ?_
  refine sw_istore_n (lc' := [(0, _), (1, _), (2, _)]) 4 dX11_howManyPairs_3 rfl rfl (by decide) rfl ?_
  exact loop 4 0 _ (by omega) I
end sw_ops3
