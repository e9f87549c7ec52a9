/-! THE REFERENCE, 6: forms -/
def shpE (k : Nat) (x y : Int) : Int := if k = 0 then x else if k = 1 then y else if k = 2 then -x else if k = 3 then -y else if k = 4 then y - x else x - y
def shpS (k : Nat) (sg ms : Int) : Int := if k = 0 ∨ k = 2 then sg else if k = 1 ∨ k = 3 then ms else -sg * ms
theorem zIk {k m : Nat} (hk : k < 10) (hm : m < 10) : (zI k = zI m) ↔ k = m := by rw [zI_eq (by omega) (by omega) (by omega) (by omega)]; omega
section sw_m6
variable {X : sw_X} {l : Launch} {d : Nat} {h : sw_H} {σ : SgZ}
theorem m_hasForm {n k : Nat} {p bx e y : Nat → Int} {sg ms : Int} (V : imB h n p bx) (hn : n ≤ 4) (R : rwM h 9 n e) (R2 : rwM h 10 n y) (hS : h.1 0 14 = zI sg) (hM : h.1 0 15 = zI ms) (he : e6Z n e) (hy : e6Z n y) (hk : k < 6) (hx : ∀ i, i < n → -6 ≤ shpE k (e i) (y i) ∧ shpE k (e i) (y i) ≤ 6) : sw_ct wM X l (d + 1) mX12_hasForm [.ref 0, .int (zI k)] h (sw_qI wM X fun r h2 => frM [11] [16] h h2 ∧ r = zI 1 ∧ rwM h2 11 n (fun i => shpE k (e i) (y i)) ∧ h2.1 0 16 = zI (shpS k sg ms)) := by
  have z0k : (zI k = 0) ↔ k = 0 := zIk (m := 0) (by omega) (by decide)
  have z1k : (zI k = zI 1) ↔ k = 1 := zIk (m := 1) (by omega) (by decide)
  have z2k : (zI k = zI 2) ↔ k = 2 := zIk (m := 2) (by omega) (by decide)
  have z3k : (zI k = zI 3) ↔ k = 3 := zIk (m := 3) (by omega) (by decide)
  have z4k : (zI k = zI 4) ↔ k = 4 := zIk (m := 4) (by omega) (by decide)
  refine sw_ct_of (by decide +kernel) (Nat.le_of_ble_eq_true rfl) rfl ?_
  generalize hQ : (sw_qI wM X fun r h2 => frM [11] [16] h h2 ∧ r = zI 1 ∧ rwM h2 11 n (fun i => shpE k (e i) (y i)) ∧ h2.1 0 16 = zI (shpS k sg ms)) = Qc
  have loop : ∀ (c j : Nat) (g : sw_H), j + c = n → frM [11] [16] h g → g.1 0 16 = zI (shpS k sg ms) → (∀ i, i < j → g.1 11 i = zI (shpE k (e i) (y i))) → sw_wp wM X l (d + 1) mX12_hasForm Qc 49 [(0, .ref 0), (1, .int (zI k)), (2, .int (zI j))] [] g := by
    intro c
    induction c with
    | zero =>
      intro j g hj A gS g1
      have : j = n := by omega
      subst this
      have e0 : g.1 0 0 = zI j := by rw [A.2.2 0 (by decide)]; exact V.1
      subst hQ
      refine sw_iload_n 50 dX12_hasForm_49 rfl rfl rfl ?_
      refine sw_aload_n 51 dX12_hasForm_50 rfl rfl rfl ?_
      refine sw_getI 54 dX12_hasForm_51 rfl gf_RX12_83 rfl ⟨by decide, rfl⟩ ?_
      rw [e0]
      refine sw_icmp_ge 157 57 dX12_hasForm_54 (by decide) rfl (fun c54 => ?_) (fun c54 => ?_)
      · refine sw_iconst (v := zI 1) 158 dX12_hasForm_157 rfl (by decide) ?_
        exact sw_zret (by first | exact Or.inl rfl | exact Or.inr rfl | assumption) dX12_hasForm_158 rfl (⟨A, rfl, g1, gS⟩)
      · exact absurd (Int32.le_refl _) c54
    | succ c ih =>
      intro j g hj A gS g1
      have e0 : g.1 0 0 = zI n := by rw [A.2.2 0 (by decide)]; exact V.1
      have hin := zI_inN (a := j) (n := 4) (by omega) (by decide)
      have e9 : g.1 9 j = zI (e j) := by rw [A.1 9 (by decide) (by decide)]; exact R j (by omega)
      have e10 : g.1 10 j = zI (y j) := by rw [A.1 10 (by decide) (by decide)]; exact R2 j (by omega)
      have hej := he j (by omega)
      have hyj := hy j (by omega)
      have hxj := hx j (by omega)
      have fin : ∀ V9 : Int32, V9 = zI (shpE k (e j) (y j)) → sw_wp wM X l (d + 1) mX12_hasForm Qc 133 [(0, .ref 0), (1, .int (zI k)), (2, .int (zI j)), (3, .int (zI (e j))), (4, .int (zI (y j)))] [] (sw_wI g 11 (zI j).toNatClampNeg V9) := by
        intro V9 hV
        rw [hV, zI_clampN (by omega)]
        have e11 : (sw_wI g 11 j (zI (shpE k (e j) (y j)))).1 11 j = zI (shpE k (e j) (y j)) := by rw [sw_wI_at]; simp [va_up]
        refine sw_aload_n 134 dX12_hasForm_133 rfl rfl rfl ?_
        refine sw_getR (b := 11) 137 dX12_hasForm_134 rfl gf_RX12_43 (fun _ _ _ _ => rfl) ⟨by decide, rfl⟩ rfl ?_
        refine sw_iload_n 138 dX12_hasForm_137 rfl rfl rfl ?_
        refine sw_iald 139 dX12_hasForm_138 rfl ⟨by decide, rfl⟩ (by assumption) ?_
        rw [zI_clampN (by omega), e11]
        refine sw_bipush (v := zI (-6)) 141 dX12_hasForm_139 rfl (by decide) ?_
        refine sw_bipush (v := zI 6) 143 dX12_hasForm_141 rfl (by decide) ?_
        refine sw_invSI 146 dX12_hasForm_143 rfl lk_RX12_87 (c_in (by omega) (by omega) (by decide) (by decide) (by decide) (by decide)) rfl rfl (Nat.le_of_ble_eq_true rfl) (fun r143 h143 hq143 => ?_)
        obtain ⟨rfl, rfl⟩ := hq143
        refine sw_if_ne 151 149 dX12_hasForm_146 (by decide) rfl (fun c146 => ?_) (fun c146 => ?_)
        · refine sw_iinc (v := zI 1) (lc' := [(0, _), (1, _), (2, _), (3, _), (4, _)]) 154 dX12_hasForm_151 rfl (by decide) rfl rfl rfl ?_
          refine sw_goto 49 dX12_hasForm_154 (by decide) ?_
          rw [zI_add]
          refine sw_wp_sub (by simp) (ih (j + 1) _ (by omega) (frM_tr A (frM_wI (by decide) (by decide))) (by rw [sw_wI_ne (by decide)]; exact gS) (fun i hi => ?_))
          rw [sw_wI_at]
          unfold va_up
          by_cases c : i = j
          · rw [if_pos c, c]
          · rw [if_neg c]; exact g1 i (by omega)
        · rw [ifz_eq] at c146; exact absurd hxj c146
      refine sw_iload_n 50 dX12_hasForm_49 rfl rfl rfl ?_
      refine sw_aload_n 51 dX12_hasForm_50 rfl rfl rfl ?_
      refine sw_getI 54 dX12_hasForm_51 rfl gf_RX12_83 rfl ⟨by decide, rfl⟩ ?_
      rw [e0]
      refine sw_icmp_ge 157 57 dX12_hasForm_54 (by decide) rfl (fun c54 => ?_) (fun c54 => ?_)
      · exact absurd c54 (by rw [zI_le (by omega) (by omega) (by omega) (by omega)]; omega)
      · refine sw_aload_n 58 dX12_hasForm_57 rfl rfl rfl ?_
        refine sw_getR (b := 9) 61 dX12_hasForm_58 rfl gf_RX12_37 (fun _ _ _ _ => rfl) ⟨by decide, rfl⟩ rfl ?_
        refine sw_iload_n 62 dX12_hasForm_61 rfl rfl rfl ?_
        refine sw_iald 63 dX12_hasForm_62 rfl ⟨by decide, rfl⟩ (by assumption) ?_
        rw [zI_clampN (by omega), e9]
        refine sw_istore_n (lc' := [(0, _), (1, _), (2, _), (3, _)]) 64 dX12_hasForm_63 rfl rfl (by decide) rfl ?_
        refine sw_aload_n 65 dX12_hasForm_64 rfl rfl rfl ?_
        refine sw_getR (b := 10) 68 dX12_hasForm_65 rfl gf_RX12_40 (fun _ _ _ _ => rfl) ⟨by decide, rfl⟩ rfl ?_
        refine sw_iload_n 69 dX12_hasForm_68 rfl rfl rfl ?_
        refine sw_iald 70 dX12_hasForm_69 rfl ⟨by decide, rfl⟩ (by assumption) ?_
        rw [zI_clampN (by omega), e10]
        refine sw_istore (lc' := [(0, _), (1, _), (2, _), (3, _), (4, _)]) 72 dX12_hasForm_70 rfl (by decide) rfl ?_
        refine sw_aload_n 73 dX12_hasForm_72 rfl rfl rfl ?_
        refine sw_getR (b := 11) 76 dX12_hasForm_73 rfl gf_RX12_43 (fun _ _ _ _ => rfl) ⟨by decide, rfl⟩ rfl ?_
        refine sw_iload_n 77 dX12_hasForm_76 rfl rfl rfl ?_
        refine sw_iload_n 78 dX12_hasForm_77 rfl rfl rfl ?_
        refine sw_if_ne 85 81 dX12_hasForm_78 (by decide) rfl (fun c78 => ?_) (fun c78 => ?_)
        · rw [z0k] at c78
          refine sw_iload_n 86 dX12_hasForm_85 rfl rfl rfl ?_
          refine sw_iconst (v := zI 1) 87 dX12_hasForm_86 rfl (by decide) ?_
          refine sw_icmp_ne 95 90 dX12_hasForm_87 (by decide) rfl (fun c87 => ?_) (fun c87 => ?_)
          · rw [z1k] at c87
            refine sw_iload_n 96 dX12_hasForm_95 rfl rfl rfl ?_
            refine sw_iconst (v := zI 2) 97 dX12_hasForm_96 rfl (by decide) ?_
            refine sw_icmp_ne 105 100 dX12_hasForm_97 (by decide) rfl (fun c97 => ?_) (fun c97 => ?_)
            · rw [z2k] at c97
              refine sw_iload_n 106 dX12_hasForm_105 rfl rfl rfl ?_
              refine sw_iconst (v := zI 3) 107 dX12_hasForm_106 rfl (by decide) ?_
              refine sw_icmp_ne 116 110 dX12_hasForm_107 (by decide) rfl (fun c107 => ?_) (fun c107 => ?_)
              · rw [z3k] at c107
                refine sw_iload_n 117 dX12_hasForm_116 rfl rfl rfl ?_
                refine sw_iconst (v := zI 4) 118 dX12_hasForm_117 rfl (by decide) ?_
                refine sw_icmp_ne 128 121 dX12_hasForm_118 (by decide) rfl (fun c118 => ?_) (fun c118 => ?_)
                · rw [z4k] at c118
                  refine sw_iload_n 129 dX12_hasForm_128 rfl rfl rfl ?_
                  refine sw_iload 131 dX12_hasForm_129 rfl rfl ?_
                  refine sw_isub 132 dX12_hasForm_131 rfl ?_
                  refine sw_iast 133 dX12_hasForm_132 rfl ⟨by decide, rfl⟩ (by assumption) ?_
                  exact fin _ (by unfold shpE; rw [if_neg c78, if_neg c87, if_neg c97, if_neg c107, if_neg c118, zI_sub])
                · rw [z4k] at c118
                  refine sw_iload 123 dX12_hasForm_121 rfl rfl ?_
                  refine sw_iload_n 124 dX12_hasForm_123 rfl rfl rfl ?_
                  refine sw_isub 125 dX12_hasForm_124 rfl ?_
                  refine sw_goto 132 dX12_hasForm_125 (by decide) ?_
                  refine sw_iast 133 dX12_hasForm_132 rfl ⟨by decide, rfl⟩ (by assumption) ?_
                  exact fin _ (by unfold shpE; rw [if_neg c78, if_neg c87, if_neg c97, if_neg c107, if_pos c118, zI_sub])
              · rw [z3k] at c107
                refine sw_iload 112 dX12_hasForm_110 rfl rfl ?_
                refine sw_ineg 113 dX12_hasForm_112 rfl ?_
                refine sw_goto 132 dX12_hasForm_113 (by decide) ?_
                refine sw_iast 133 dX12_hasForm_132 rfl ⟨by decide, rfl⟩ (by assumption) ?_
                exact fin _ (by unfold shpE; rw [if_neg c78, if_neg c87, if_neg c97, if_pos c107, zI_neg])
            · rw [z2k] at c97
              refine sw_iload_n 101 dX12_hasForm_100 rfl rfl rfl ?_
              refine sw_ineg 102 dX12_hasForm_101 rfl ?_
              refine sw_goto 132 dX12_hasForm_102 (by decide) ?_
              refine sw_iast 133 dX12_hasForm_132 rfl ⟨by decide, rfl⟩ (by assumption) ?_
              exact fin _ (by unfold shpE; rw [if_neg c78, if_neg c87, if_pos c97, zI_neg])
          · rw [z1k] at c87
            refine sw_iload 92 dX12_hasForm_90 rfl rfl ?_
            refine sw_goto 132 dX12_hasForm_92 (by decide) ?_
            refine sw_iast 133 dX12_hasForm_132 rfl ⟨by decide, rfl⟩ (by assumption) ?_
            exact fin _ (by unfold shpE; rw [if_neg c78, if_pos c87])
        · rw [z0k] at c78
          refine sw_iload_n 82 dX12_hasForm_81 rfl rfl rfl ?_
          refine sw_goto 132 dX12_hasForm_82 (by decide) ?_
          refine sw_iast 133 dX12_hasForm_132 rfl ⟨by decide, rfl⟩ (by assumption) ?_
          exact fin _ (by unfold shpE; rw [if_pos c78])
  have start : ∀ V9 : Int32, V9 = zI (shpS k sg ms) → sw_wp wM X l (d + 1) mX12_hasForm Qc 47 [(0, .ref 0), (1, .int (zI k))] [] (sw_wI h 0 16 V9) := by
    intro V9 hV
    rw [hV]
    refine sw_iconst (v := zI 0) 48 dX12_hasForm_47 rfl (by decide) ?_
    refine sw_istore_n (lc' := [(0, _), (1, _), (2, _)]) 49 dX12_hasForm_48 rfl rfl (by decide) rfl ?_
    exact loop n 0 _ (by omega) (frM_w0 (by decide)) (by rw [sw_wI_at]; simp [va_up]) (fun i hi => absurd hi (Nat.not_lt_zero i))
  refine sw_aload_n 1 dX12_hasForm_0 rfl rfl rfl ?_
  refine sw_iload_n 2 dX12_hasForm_1 rfl rfl rfl ?_
  refine sw_if_eq 10 5 dX12_hasForm_2 (by decide) rfl (fun c2 => ?_) (fun c2 => ?_)
  · refine sw_aload_n 11 dX12_hasForm_10 rfl rfl rfl ?_
    refine sw_getI 14 dX12_hasForm_11 rfl gf_RX12_109 rfl ⟨by decide, rfl⟩ ?_
    refine sw_goto 44 dX12_hasForm_14 (by decide) ?_
    refine sw_putI 47 dX12_hasForm_44 rfl pf_RX12_129 rfl ⟨by decide, rfl⟩ ?_
    exact start _ (by rw [hS]; rw [z0k] at c2; unfold shpS; rw [if_pos (by omega)])
  · rw [z0k] at c2
    refine sw_iload_n 6 dX12_hasForm_5 rfl rfl rfl ?_
    refine sw_iconst (v := zI 2) 7 dX12_hasForm_6 rfl (by decide) ?_
    refine sw_icmp_ne 17 10 dX12_hasForm_7 (by decide) rfl (fun c7 => ?_) (fun c7 => ?_)
    · rw [z2k] at c7
      refine sw_iload_n 18 dX12_hasForm_17 rfl rfl rfl ?_
      refine sw_iconst (v := zI 1) 19 dX12_hasForm_18 rfl (by decide) ?_
      refine sw_icmp_eq 27 22 dX12_hasForm_19 (by decide) rfl (fun c19 => ?_) (fun c19 => ?_)
      · refine sw_aload_n 28 dX12_hasForm_27 rfl rfl rfl ?_
        refine sw_getI 31 dX12_hasForm_28 rfl gf_RX12_120 rfl ⟨by decide, rfl⟩ ?_
        refine sw_goto 44 dX12_hasForm_31 (by decide) ?_
        refine sw_putI 47 dX12_hasForm_44 rfl pf_RX12_129 rfl ⟨by decide, rfl⟩ ?_
        exact start _ (by rw [hM]; rw [z1k] at c19; unfold shpS; rw [if_neg (by omega), if_pos (by omega)])
      · rw [z1k] at c19
        refine sw_iload_n 23 dX12_hasForm_22 rfl rfl rfl ?_
        refine sw_iconst (v := zI 3) 24 dX12_hasForm_23 rfl (by decide) ?_
        refine sw_icmp_ne 34 27 dX12_hasForm_24 (by decide) rfl (fun c24 => ?_) (fun c24 => ?_)
        · rw [z3k] at c24
          refine sw_aload_n 35 dX12_hasForm_34 rfl rfl rfl ?_
          refine sw_getI 38 dX12_hasForm_35 rfl gf_RX12_109 rfl ⟨by decide, rfl⟩ ?_
          refine sw_ineg 39 dX12_hasForm_38 rfl ?_
          refine sw_aload_n 40 dX12_hasForm_39 rfl rfl rfl ?_
          refine sw_getI 43 dX12_hasForm_40 rfl gf_RX12_120 rfl ⟨by decide, rfl⟩ ?_
          refine sw_imul 44 dX12_hasForm_43 rfl ?_
          refine sw_putI 47 dX12_hasForm_44 rfl pf_RX12_129 rfl ⟨by decide, rfl⟩ ?_
          exact start _ (by rw [hS, hM, zI_neg, zI_mul]; unfold shpS; rw [if_neg (by omega), if_neg (by omega)])
        · refine sw_aload_n 28 dX12_hasForm_27 rfl rfl rfl ?_
          refine sw_getI 31 dX12_hasForm_28 rfl gf_RX12_120 rfl ⟨by decide, rfl⟩ ?_
          refine sw_goto 44 dX12_hasForm_31 (by decide) ?_
          refine sw_putI 47 dX12_hasForm_44 rfl pf_RX12_129 rfl ⟨by decide, rfl⟩ ?_
          exact start _ (by rw [hM]; rw [z3k] at c24; unfold shpS; rw [if_neg (by omega), if_pos (by omega)])
    · refine sw_aload_n 11 dX12_hasForm_10 rfl rfl rfl ?_
      refine sw_getI 14 dX12_hasForm_11 rfl gf_RX12_109 rfl ⟨by decide, rfl⟩ ?_
      refine sw_goto 44 dX12_hasForm_14 (by decide) ?_
      refine sw_putI 47 dX12_hasForm_44 rfl pf_RX12_129 rfl ⟨by decide, rfl⟩ ?_
      exact start _ (by rw [hS]; rw [z2k] at c7; unfold shpS; rw [if_pos (by omega)])
theorem m_partner (K : okS σ) (I : IM h σ) {s to : Int} (s1 : -2147483648 ≤ s) (s2 : s < 2147483648) (t1 : -2147483648 ≤ to) (t2 : to < 2147483648) : sw_ct wM X l (d + 2) mX12_partner [.ref 0, .int (zI s), .int (zI to)] h (sw_qI wM X fun r h2 => IM h2 (opPartner σ s to).2 ∧ r = zI (opPartner σ s to).1) := by
  refine sw_ct_of (by decide +kernel) (Nat.le_of_ble_eq_true rfl) rfl ?_
  refine sw_iload_n 1 dX12_partner_0 rfl rfl rfl ?_
  refine sw_invSI 4 dX12_partner_1 rfl lk_RX12_132 (m_isShelf s1 s2) rfl rfl (Nat.le_of_ble_eq_true rfl) (fun r1 h1 hq1 => ?_)
  obtain ⟨rfl, rfl⟩ := hq1
  refine sw_if_eq 14 7 dX12_partner_4 (by decide) rfl (fun c4 => ?_) (fun c4 => ?_)
  · refine sw_iconst (v := zI (-1)) 15 dX12_partner_14 rfl (by decide) ?_
    exact sw_iret dX12_partner_15 rfl (by
  rw [ifz_eq] at c4
  unfold opPartner; rw [if_neg (fun hh => c4 hh.1)]; exact ⟨I, rfl⟩)
  · rw [ifz_eq, Decidable.not_not] at c4
    refine sw_iload_n 8 dX12_partner_7 rfl rfl rfl ?_
    refine sw_invSI 11 dX12_partner_8 rfl lk_RX12_132 (m_isShelf t1 t2) rfl rfl (Nat.le_of_ble_eq_true rfl) (fun r8 h8 hq8 => ?_)
    obtain ⟨rfl, rfl⟩ := hq8
    refine sw_if_ne 16 14 dX12_partner_11 (by decide) rfl (fun c11 => ?_) (fun c11 => ?_)
    · rw [ifz_eq, Decidable.not_not] at c11
      obtain ⟨a, rfl⟩ := Int.eq_ofNat_of_zero_le c4.1
      obtain ⟨c, rfl⟩ := Int.eq_ofNat_of_zero_le c11.1
      have ha : a < 4 := by omega
      have hc : c < 4 := by omega
      refine sw_aload_n 17 dX12_partner_16 rfl rfl rfl ?_
      refine sw_iload_n 18 dX12_partner_17 rfl rfl rfl ?_
      refine sw_invVV 21 dX12_partner_18 rfl lk_RX12_137 (m_looks K I ha) ⟨by decide, rfl⟩ rfl rfl (Nat.le_of_ble_eq_true rfl) (fun h18 hq18 => ?_)
      obtain ⟨A, R, S⟩ := hq18
      have I2 := IM_fr I A (by decide) (by decide)
      refine sw_aload_n 22 dX12_partner_21 rfl rfl rfl ?_
      refine sw_invVI 25 dX12_partner_22 rfl lk_RX12_160 (m_hasMate I2.1 K.1.1 R (fun i hi => e6 K ha hi) S (K.1.2.1 a ha).1) ⟨by decide, rfl⟩ rfl rfl (Nat.le_of_ble_eq_true rfl) (fun r22 h22 hq22 => ?_)
      obtain ⟨B, rfl, M⟩ := hq22
      have I3 := IM_fr I2 B (by decide) (by decide)
      have em : frOK σ.1.1.1 σ.1.1.2.1 (bU σ.1.1.1 σ.1.1.2.1 (σ.1.2.1.2 a) - aU σ.1.1.1 σ.1.1.2.1 (σ.1.2.1.2 a) (σ.1.2.1.1 a)) (bU σ.1.1.1 σ.1.1.2.1 (σ.1.2.1.2 a)) = mtOK σ a := rfl
      rw [em] at M ⊢
      refine sw_if_ne 31 28 dX12_partner_25 (by decide) rfl (fun c25 => ?_) (fun c25 => ?_)
      · rw [bIz_eq, Bool.not_eq_false] at c25
        obtain ⟨M1, M2⟩ := M c25
        refine sw_aload_n 32 dX12_partner_31 rfl rfl rfl ?_
        refine sw_iload_n 33 dX12_partner_32 rfl rfl rfl ?_
        refine sw_aload_n 34 dX12_partner_33 rfl rfl rfl ?_
        refine sw_getR (b := 10) 37 dX12_partner_34 rfl gf_RX12_40 (fun _ _ _ _ => rfl) ⟨by decide, rfl⟩ rfl ?_
        refine sw_aload_n 38 dX12_partner_37 rfl rfl rfl ?_
        refine sw_getI 41 dX12_partner_38 rfl gf_RX12_120 rfl ⟨by decide, rfl⟩ ?_
        rw [M2]
        refine sw_invVV 44 dX12_partner_41 rfl lk_RX12_152 (m_gets K I3 hc r10 (by decide) (by decide) M1) ⟨by decide, rfl⟩ rfl rfl (Nat.le_of_ble_eq_true rfl) (fun h41 hq41 => ?_)
        obtain ⟨I4, -⟩ := hq41
        refine sw_iconst (v := zI 1) 45 dX12_partner_44 rfl (by decide) ?_
        exact sw_iret dX12_partner_45 rfl (by
  unfold opPartner; rw [if_pos ⟨c4, c11⟩, if_pos (show mtOK σ ((a : Nat) : Int).toNat = true from c25)]; exact ⟨I4, rfl⟩)
      · rw [bIz_eq] at c25
        refine sw_bipush (v := zI (-5)) 30 dX12_partner_28 rfl (by decide) ?_
        exact sw_iret dX12_partner_30 rfl (by
  unfold opPartner; rw [if_pos ⟨c4, c11⟩, if_neg (by rw [show mtOK σ ((a : Nat) : Int).toNat = false from c25]; decide)]; exact ⟨I3, rfl⟩)
    · refine sw_iconst (v := zI (-1)) 15 dX12_partner_14 rfl (by decide) ?_
      exact sw_iret dX12_partner_15 rfl (by
  rw [ifz_eq] at c11
  unfold opPartner; rw [if_neg (fun hh => c11 hh.2)]; exact ⟨I, rfl⟩)
end sw_m6
