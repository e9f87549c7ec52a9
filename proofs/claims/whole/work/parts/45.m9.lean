/-! THE REFERENCE, 9: texts written -/
/-- the paper: k bytes f -/
def pM (h : sw_H) (f : Nat → Int32) (k : Nat) : sw_H := sw_wI (sw_pI h 22 f) 0 31 (zI k)
theorem pM_k {h : sw_H} {f : Nat → Int32} {k : Nat} : (pM h f k).1 0 31 = zI k := by unfold pM; rw [sw_wI_at]; simp [va_up]
theorem pM_row {h : sw_H} {f : Nat → Int32} {k : Nat} : (pM h f k).1 22 = f := by unfold pM; rw [sw_wI_ne (by decide), sw_pI_at]
theorem pM_fr {h : sw_H} {f : Nat → Int32} {k : Nat} : frM [22] [31] h (pM h f k) := frM_tr (frM_pI (by decide) (by decide)) (frM_w0 (by decide))
theorem pM_up {h : sw_H} {f : Nat → Int32} {k i : Nat} {x : Int32} : sw_wI (pM h f k) 22 i x = pM h (va_up f i x) k := by
  unfold pM
  rw [sw_wI_p (a := 22), sw_wI_ne (by decide), sw_pI_at, sw_wI_p, sw_wI_p, sw_pI_comm (by decide), sw_pI_pI, sw_pI_ne (by decide), sw_pI_ne (by decide)]
theorem pM_sz {h : sw_H} {f : Nat → Int32} {k j : Nat} : sw_wI (pM h f k) 0 31 (zI j) = pM h f j := by
  unfold pM
  rw [sw_wI_p, sw_wI_p, sw_wI_p, sw_pI_at, sw_pI_pI, sw_pI_ne (by decide)]
  congr 1
  funext i
  by_cases e : i = 31 <;> simp [va_up, e]
section sw_m9
variable {X : sw_X} {l : Launch} {d : Nat} {h : sw_H} {σ : SgZ}
theorem m_writes {f : Nat → Int32} {k : Nat} (hk : k < 40) (x : Int) : sw_ct wM X l d mX12_writes [.ref 0, .int (zI x)] (pM h f k) (sw_qV wM X fun h2 => h2 = pM h (appR f k [x]) (k + 1)) := by
  have hin := zI_inN (a := k) (n := 40) hk (by decide)
  refine sw_ct_of (by decide +kernel) (Nat.le_of_ble_eq_true rfl) rfl ?_
  refine sw_aload_n 1 dX12_writes_0 rfl rfl rfl ?_
  refine sw_getR (b := 22) 4 dX12_writes_1 rfl gf_RX12_77 (fun _ _ _ _ => rfl) ⟨by decide, rfl⟩ rfl ?_
  refine sw_aload_n 5 dX12_writes_4 rfl rfl rfl ?_
  refine sw_getI 8 dX12_writes_5 rfl gf_RX12_244 rfl ⟨by decide, rfl⟩ ?_
  rw [pM_k]
  refine sw_iload_n 9 dX12_writes_8 rfl rfl rfl ?_
  refine sw_iast 10 dX12_writes_9 rfl ⟨by decide, rfl⟩ (by assumption) ?_
  rw [zI_clampN (by omega), pM_up]
  refine sw_aload_n 11 dX12_writes_10 rfl rfl rfl ?_
  refine sw_dup 12 dX12_writes_11 rfl rfl ?_
  refine sw_getI 15 dX12_writes_12 rfl gf_RX12_244 rfl ⟨by decide, rfl⟩ ?_
  rw [pM_k]
  refine sw_iconst (v := zI 1) 16 dX12_writes_15 rfl (by decide) ?_
  refine sw_iadd 17 dX12_writes_16 rfl ?_
  rw [zI_add]
  refine sw_putI 20 dX12_writes_17 rfl pf_RX12_244 rfl ⟨by decide, rfl⟩ ?_
  exact sw_vret dX12_writes_20 rfl (by rw [show ((k : Int) + 1) = ((k + 1 : Nat) : Int) from rfl, pM_sz, appR_one])
theorem m_writesPower {n i k : Nat} {p bx e : Nat → Int} {f : Nat → Int32} {φ : Bool} (V : imB h n p bx) (hn : n ≤ 4) (hi : i < n) (hp : 2 ≤ p i ∧ p i ≤ 31) (R : rwM h 9 n e) (he : -6 ≤ e i ∧ e i ≤ 6) (hk : k + 6 ≤ 40) : sw_ct wM X l (d + 1) mX12_writesPower [.ref 0, .int (zI i), .int (zI (if φ then 1 else 0))] (pM h f k) (sw_qV wM X fun h2 => h2 = pM h (appR f k ((if φ then [] else [42]) ++ facZ (p i) (e i))) (k + ((if φ then [] else [42]) ++ facZ (p i) (e i)).length)) := by
  have hin4 := zI_inN (a := i) (n := 4) (by omega) (by decide)
  have hin5 := zI_inN (a := i) (n := 5) (by omega) (by decide)
  have e1 : ∀ f k, (pM h f k).1 1 i = zI (p i) := fun f k => by rw [pM_fr.1 1 (by decide) (by decide)]; exact (V.2 i hi).1
  have e9 : ∀ f k, (pM h f k).1 9 i = zI (e i) := fun f k => by rw [pM_fr.1 9 (by decide) (by decide)]; exact R i hi
  have hz : ¬ zI 10 = 0 := by decide
  refine sw_ct_of (by decide +kernel) (Nat.le_of_ble_eq_true rfl) rfl ?_
  generalize hQ : (sw_qV wM X fun h2 => h2 = pM h (appR f k ((if φ then [] else [42]) ++ facZ (p i) (e i))) (k + ((if φ then [] else [42]) ++ facZ (p i) (e i)).length)) = Qc
  -- the power
  have lC : ∀ (F : Nat → Int32) (K9 : Nat) (G : Nat → Int32) (K8 : Nat), K9 + 3 ≤ 40 → appR F K9 (if e i = 1 then [] else [94] ++ ((if e i < 0 then [45] else []) ++ [48 + ((e i).natAbs : Int)])) = G → K9 + (if e i = 1 then ([] : List Int) else [94] ++ ((if e i < 0 then [45] else []) ++ [48 + ((e i).natAbs : Int)])).length = K8 → appR f k ((if φ then [] else [42]) ++ facZ (p i) (e i)) = G → k + ((if φ then [] else [42]) ++ facZ (p i) (e i)).length = K8 → sw_wp wM X l (d + 1) mX12_writesPower Qc 53 [(0, .ref 0), (1, .int (zI i)), (2, .int (zI (if φ then 1 else 0)))] [] (pM h F K9) := by
    intro F K9 G K8 hK hG h8 hG2 h82
    subst hQ
    rw [hG2, h82]
    have hmx : max (e i) (-e i) = ((e i).natAbs : Int) := by omega
    refine sw_aload_n 54 dX12_writesPower_53 rfl rfl rfl ?_
    refine sw_getR (b := 9) 57 dX12_writesPower_54 rfl gf_RX12_37 (fun _ _ _ _ => rfl) ⟨by decide, rfl⟩ rfl ?_
    refine sw_iload_n 58 dX12_writesPower_57 rfl rfl rfl ?_
    refine sw_iald 59 dX12_writesPower_58 rfl ⟨by decide, rfl⟩ (by assumption) ?_
    rw [zI_clampN (by omega), e9]
    refine sw_iconst (v := zI 1) 60 dX12_writesPower_59 rfl (by decide) ?_
    refine sw_icmp_eq 107 63 dX12_writesPower_60 (by decide) rfl (fun c60 => ?_) (fun c60 => ?_)
    · exact sw_vret dX12_writesPower_107 rfl (by
  rw [zI_eq (by omega) (by omega) (by omega) (by omega)] at c60
  rw [if_pos c60] at hG h8
  rw [← hG, ← h8, appR_nil]; rfl)
    · rw [zI_eq (by omega) (by omega) (by omega) (by omega)] at c60
      refine sw_aload_n 64 dX12_writesPower_63 rfl rfl rfl ?_
      refine sw_bipush (v := zI 94) 66 dX12_writesPower_64 rfl (by decide) ?_
      refine sw_invVV 69 dX12_writesPower_66 rfl lk_RX12_247 (m_writes (k := K9) (by omega) 94) ⟨by decide, rfl⟩ rfl rfl (Nat.le_of_ble_eq_true rfl) (fun h66 hq66 => ?_)
      subst hq66
      refine sw_aload_n 70 dX12_writesPower_69 rfl rfl rfl ?_
      refine sw_getR (b := 9) 73 dX12_writesPower_70 rfl gf_RX12_37 (fun _ _ _ _ => rfl) ⟨by decide, rfl⟩ rfl ?_
      refine sw_iload_n 74 dX12_writesPower_73 rfl rfl rfl ?_
      refine sw_iald 75 dX12_writesPower_74 rfl ⟨by decide, rfl⟩ (by assumption) ?_
      rw [zI_clampN (by omega), e9]
      refine sw_if_ge 84 78 dX12_writesPower_75 (by decide) rfl (fun c75 => ?_) (fun c75 => ?_)
      · refine sw_aload_n 85 dX12_writesPower_84 rfl rfl rfl ?_
        refine sw_bipush (v := zI 48) 87 dX12_writesPower_85 rfl (by decide) ?_
        refine sw_aload_n 88 dX12_writesPower_87 rfl rfl rfl ?_
        refine sw_getR (b := 9) 91 dX12_writesPower_88 rfl gf_RX12_37 (fun _ _ _ _ => rfl) ⟨by decide, rfl⟩ rfl ?_
        refine sw_iload_n 92 dX12_writesPower_91 rfl rfl rfl ?_
        refine sw_iald 93 dX12_writesPower_92 rfl ⟨by decide, rfl⟩ (by assumption) ?_
        rw [zI_clampN (by omega), e9]
        refine sw_aload_n 94 dX12_writesPower_93 rfl rfl rfl ?_
        refine sw_getR (b := 9) 97 dX12_writesPower_94 rfl gf_RX12_37 (fun _ _ _ _ => rfl) ⟨by decide, rfl⟩ rfl ?_
        refine sw_iload_n 98 dX12_writesPower_97 rfl rfl rfl ?_
        refine sw_iald 99 dX12_writesPower_98 rfl ⟨by decide, rfl⟩ (by assumption) ?_
        rw [zI_clampN (by omega), e9]
        refine sw_ineg 100 dX12_writesPower_99 rfl ?_
        rw [zI_neg]
        refine sw_invSI 103 dX12_writesPower_100 rfl lk_RX12_141 (c_maxZ (by omega) (by omega) (by omega) (by omega)) rfl rfl (Nat.le_of_ble_eq_true rfl) (fun r100 h100 hq100 => ?_)
        obtain ⟨rfl, rfl⟩ := hq100
        rw [hmx]
        refine sw_iadd 104 dX12_writesPower_103 rfl ?_
        rw [zI_add]
        refine sw_invVV 107 dX12_writesPower_104 rfl lk_RX12_247 (m_writes (k := K9 + 1) (by omega) (48 + ((e i).natAbs : Int))) ⟨by decide, rfl⟩ rfl rfl (Nat.le_of_ble_eq_true rfl) (fun h104 hq104 => ?_)
        subst hq104
        exact sw_vret dX12_writesPower_107 rfl (by
  rw [z0, zI_le (by omega) (by omega) (by omega) (by omega)] at c75
  rw [if_neg c60, if_neg (by omega)] at hG h8
  rw [← hG, ← h8, ← appR_app F K9 [94]]; rfl)
      · rw [z0, zI_le (by omega) (by omega) (by omega) (by omega)] at c75
        refine sw_aload_n 79 dX12_writesPower_78 rfl rfl rfl ?_
        refine sw_bipush (v := zI 45) 81 dX12_writesPower_79 rfl (by decide) ?_
        refine sw_invVV 84 dX12_writesPower_81 rfl lk_RX12_247 (m_writes (k := K9 + 1) (by omega) 45) ⟨by decide, rfl⟩ rfl rfl (Nat.le_of_ble_eq_true rfl) (fun h81 hq81 => ?_)
        subst hq81
        refine sw_aload_n 85 dX12_writesPower_84 rfl rfl rfl ?_
        refine sw_bipush (v := zI 48) 87 dX12_writesPower_85 rfl (by decide) ?_
        refine sw_aload_n 88 dX12_writesPower_87 rfl rfl rfl ?_
        refine sw_getR (b := 9) 91 dX12_writesPower_88 rfl gf_RX12_37 (fun _ _ _ _ => rfl) ⟨by decide, rfl⟩ rfl ?_
        refine sw_iload_n 92 dX12_writesPower_91 rfl rfl rfl ?_
        refine sw_iald 93 dX12_writesPower_92 rfl ⟨by decide, rfl⟩ (by assumption) ?_
        rw [zI_clampN (by omega), e9]
        refine sw_aload_n 94 dX12_writesPower_93 rfl rfl rfl ?_
        refine sw_getR (b := 9) 97 dX12_writesPower_94 rfl gf_RX12_37 (fun _ _ _ _ => rfl) ⟨by decide, rfl⟩ rfl ?_
        refine sw_iload_n 98 dX12_writesPower_97 rfl rfl rfl ?_
        refine sw_iald 99 dX12_writesPower_98 rfl ⟨by decide, rfl⟩ (by assumption) ?_
        rw [zI_clampN (by omega), e9]
        refine sw_ineg 100 dX12_writesPower_99 rfl ?_
        rw [zI_neg]
        refine sw_invSI 103 dX12_writesPower_100 rfl lk_RX12_141 (c_maxZ (by omega) (by omega) (by omega) (by omega)) rfl rfl (Nat.le_of_ble_eq_true rfl) (fun r100 h100 hq100 => ?_)
        obtain ⟨rfl, rfl⟩ := hq100
        rw [hmx]
        refine sw_iadd 104 dX12_writesPower_103 rfl ?_
        rw [zI_add]
        refine sw_invVV 107 dX12_writesPower_104 rfl lk_RX12_247 (m_writes (k := K9 + 1 + 1) (by omega) (48 + ((e i).natAbs : Int))) ⟨by decide, rfl⟩ rfl rfl (Nat.le_of_ble_eq_true rfl) (fun h104 hq104 => ?_)
        subst hq104
        exact sw_vret dX12_writesPower_107 rfl (by
  rw [if_neg c60, if_pos (by omega)] at hG h8
  rw [← hG, ← h8, ← appR_app F K9 [94], ← appR_app _ _ [45]]; rfl)
  have lB : ∀ (F : Nat → Int32) (K9 : Nat), K9 + 5 ≤ 40 → appR F K9 (facZ (p i) (e i)) = appR f k ((if φ then [] else [42]) ++ facZ (p i) (e i)) → K9 + (facZ (p i) (e i)).length = k + ((if φ then [] else [42]) ++ facZ (p i) (e i)).length → sw_wp wM X l (d + 1) mX12_writesPower Qc 10 [(0, .ref 0), (1, .int (zI i)), (2, .int (zI (if φ then 1 else 0)))] [] (pM h F K9) := by
    intro F K9 hK hG h8
    refine sw_aload_n 11 dX12_writesPower_10 rfl rfl rfl ?_
    refine sw_getR (b := 1) 14 dX12_writesPower_11 rfl gf_RX12_9 (fun _ _ _ _ => rfl) ⟨by decide, rfl⟩ rfl ?_
    refine sw_iload_n 15 dX12_writesPower_14 rfl rfl rfl ?_
    refine sw_iald 16 dX12_writesPower_15 rfl ⟨by decide, rfl⟩ (by assumption) ?_
    rw [zI_clampN (by omega), e1]
    refine sw_bipush (v := zI 9) 18 dX12_writesPower_16 rfl (by decide) ?_
    refine sw_icmp_le 37 21 dX12_writesPower_18 (by decide) rfl (fun c18 => ?_) (fun c18 => ?_)
    · refine sw_aload_n 38 dX12_writesPower_37 rfl rfl rfl ?_
      refine sw_bipush (v := zI 48) 40 dX12_writesPower_38 rfl (by decide) ?_
      refine sw_aload_n 41 dX12_writesPower_40 rfl rfl rfl ?_
      refine sw_getR (b := 1) 44 dX12_writesPower_41 rfl gf_RX12_9 (fun _ _ _ _ => rfl) ⟨by decide, rfl⟩ rfl ?_
      refine sw_iload_n 45 dX12_writesPower_44 rfl rfl rfl ?_
      refine sw_iald 46 dX12_writesPower_45 rfl ⟨by decide, rfl⟩ (by assumption) ?_
      rw [zI_clampN (by omega), e1]
      refine sw_bipush (v := zI 10) 48 dX12_writesPower_46 rfl (by decide) ?_
      refine sw_irem 49 dX12_writesPower_48 rfl (by first | assumption | decide) ?_
      rw [zI_rem (by omega) (by omega) (by omega) (by omega), Int.tmod_eq_emod_of_nonneg (by omega)]
      refine sw_iadd 50 dX12_writesPower_49 rfl ?_
      rw [zI_add]
      refine sw_invVV 53 dX12_writesPower_50 rfl lk_RX12_247 (m_writes (k := K9) (by omega) (48 + p i % 10)) ⟨by decide, rfl⟩ rfl rfl (Nat.le_of_ble_eq_true rfl) (fun h50 hq50 => ?_)
      subst hq50
      rw [zI_le (by omega) (by omega) (by omega) (by omega)] at c18
      unfold facZ at hG h8 lC
      rw [if_neg (show ¬ 10 ≤ p i by omega)] at hG h8 lC
      refine lC _ (K9 + 1) _ _ (by omega) ?_ ?_ hG.symm h8.symm
      · rw [List.nil_append, ← appR_app F K9 [48 + p i % 10]]; rfl
      · simp only [List.length_append, List.length_cons, List.length_nil]; omega
    · rw [zI_le (by omega) (by omega) (by omega) (by omega)] at c18
      refine sw_aload_n 22 dX12_writesPower_21 rfl rfl rfl ?_
      refine sw_bipush (v := zI 48) 24 dX12_writesPower_22 rfl (by decide) ?_
      refine sw_aload_n 25 dX12_writesPower_24 rfl rfl rfl ?_
      refine sw_getR (b := 1) 28 dX12_writesPower_25 rfl gf_RX12_9 (fun _ _ _ _ => rfl) ⟨by decide, rfl⟩ rfl ?_
      refine sw_iload_n 29 dX12_writesPower_28 rfl rfl rfl ?_
      refine sw_iald 30 dX12_writesPower_29 rfl ⟨by decide, rfl⟩ (by assumption) ?_
      rw [zI_clampN (by omega), e1]
      refine sw_bipush (v := zI 10) 32 dX12_writesPower_30 rfl (by decide) ?_
      refine sw_idiv 33 dX12_writesPower_32 rfl (by first | assumption | decide) ?_
      rw [zI_div (by omega) (by omega) (by omega) (by omega), Int.tdiv_eq_ediv_of_nonneg (by omega)]
      refine sw_iadd 34 dX12_writesPower_33 rfl ?_
      rw [zI_add]
      refine sw_invVV 37 dX12_writesPower_34 rfl lk_RX12_247 (m_writes (k := K9) (by omega) (48 + p i / 10)) ⟨by decide, rfl⟩ rfl rfl (Nat.le_of_ble_eq_true rfl) (fun h34 hq34 => ?_)
      subst hq34
      refine sw_aload_n 38 dX12_writesPower_37 rfl rfl rfl ?_
      refine sw_bipush (v := zI 48) 40 dX12_writesPower_38 rfl (by decide) ?_
      refine sw_aload_n 41 dX12_writesPower_40 rfl rfl rfl ?_
      refine sw_getR (b := 1) 44 dX12_writesPower_41 rfl gf_RX12_9 (fun _ _ _ _ => rfl) ⟨by decide, rfl⟩ rfl ?_
      refine sw_iload_n 45 dX12_writesPower_44 rfl rfl rfl ?_
      refine sw_iald 46 dX12_writesPower_45 rfl ⟨by decide, rfl⟩ (by assumption) ?_
      rw [zI_clampN (by omega), e1]
      refine sw_bipush (v := zI 10) 48 dX12_writesPower_46 rfl (by decide) ?_
      refine sw_irem 49 dX12_writesPower_48 rfl (by first | assumption | decide) ?_
      rw [zI_rem (by omega) (by omega) (by omega) (by omega), Int.tmod_eq_emod_of_nonneg (by omega)]
      refine sw_iadd 50 dX12_writesPower_49 rfl ?_
      rw [zI_add]
      refine sw_invVV 53 dX12_writesPower_50 rfl lk_RX12_247 (m_writes (k := K9 + 1) (by omega) (48 + p i % 10)) ⟨by decide, rfl⟩ rfl rfl (Nat.le_of_ble_eq_true rfl) (fun h50 hq50 => ?_)
      subst hq50
      unfold facZ at hG h8 lC
      rw [if_pos (show 10 ≤ p i by omega)] at hG h8 lC
      refine lC _ (K9 + 1 + 1) _ _ (by omega) ?_ ?_ hG.symm h8.symm
      · rw [← appR_app F K9 [48 + p i / 10], ← appR_app _ _ [48 + p i % 10]]; rfl
      · simp only [List.length_append, List.length_cons, List.length_nil]; omega
  cases φ with
  | true =>
    refine sw_iload_n 1 dX12_writesPower_0 rfl rfl rfl ?_
    refine sw_if_ne 10 4 dX12_writesPower_1 (by decide) rfl (fun c1 => ?_) (fun c1 => ?_)
    · exact lB f k (by omega) rfl rfl
    · exact absurd c1 (by decide)
  | false =>
    refine sw_iload_n 1 dX12_writesPower_0 rfl rfl rfl ?_
    refine sw_if_ne 10 4 dX12_writesPower_1 (by decide) rfl (fun c1 => ?_) (fun c1 => ?_)
    · exact absurd rfl c1
    · refine sw_aload_n 5 dX12_writesPower_4 rfl rfl rfl ?_
      refine sw_bipush (v := zI 42) 7 dX12_writesPower_5 rfl (by decide) ?_
      refine sw_invVV 10 dX12_writesPower_7 rfl lk_RX12_247 (m_writes (k := k) (by omega) 42) ⟨by decide, rfl⟩ rfl rfl (Nat.le_of_ble_eq_true rfl) (fun h7 hq7 => ?_)
      subst hq7
      refine lB _ (k + 1) (by omega) ?_ ?_
      · rw [if_neg (show ¬ false = true by decide), ← appR_app f k [42]]; rfl
      · rw [if_neg (show ¬ false = true by decide)]; simp only [List.length_append, List.length_cons, List.length_nil]; omega
theorem m_spelled (K : okS σ) (I : IM h σ) {s i : Int} (s1 : -2147483648 ≤ s) (s2 : s < 2147483648) (i1 : -2147483648 ≤ i) (i2 : i < 2147483648) : sw_ct wM X l (d + 2) mX12_spelled [.ref 0, .int (zI s), .int (zI i)] h (sw_qI wM X fun r h2 => IM h2 σ ∧ r = zI (opSpelled σ s i)) := by
  have hn := K.1.1.1
  refine sw_ct_of (by decide +kernel) (Nat.le_of_ble_eq_true rfl) rfl ?_
  generalize hQ : (sw_qI wM X fun r h2 => IM h2 σ ∧ r = zI (opSpelled σ s i)) = Qc
  have fin : ∀ (a : Nat) (g : sw_H) (f : Nat → Int32) (v3 : Int32), s = (a : Nat) → a < 4 → IM g σ → sw_wp wM X l (d + 2) mX12_spelled Qc 81 [(0, .ref 0), (1, .int (zI s)), (2, .int (zI i)), (3, .int v3)] [] (pM g (appR f 0 (spS σ a)) (spS σ a).length) := by
    intro a g f v3 sa ha Ig
    have hL := spS_len K a
    have I2 : IM (pM g (appR f 0 (spS σ a)) (spS σ a).length) σ := IM_fr Ig pM_fr (by decide) (by decide)
    subst hQ
    refine sw_iload_n 82 dX12_spelled_81 rfl rfl rfl ?_
    refine sw_iconst (v := zI (-1)) 83 dX12_spelled_82 rfl (by decide) ?_
    refine sw_icmp_ne 93 86 dX12_spelled_83 (by decide) rfl (fun c83 => ?_) (fun c83 => ?_)
    · rw [zI_eq (by omega) (by omega) (by omega) (by omega)] at c83
      refine sw_iload_n 94 dX12_spelled_93 rfl rfl rfl ?_
      refine sw_iconst (v := zI 0) 95 dX12_spelled_94 rfl (by decide) ?_
      refine sw_aload_n 96 dX12_spelled_95 rfl rfl rfl ?_
      refine sw_getI 99 dX12_spelled_96 rfl gf_RX12_244 rfl ⟨by decide, rfl⟩ ?_
      rw [pM_k]
      refine sw_iconst (v := zI 1) 100 dX12_spelled_99 rfl (by decide) ?_
      refine sw_isub 101 dX12_spelled_100 rfl ?_
      rw [zI_sub]
      refine sw_invSI 104 dX12_spelled_101 rfl lk_RX12_87 (c_in i1 i2 (by decide) (by decide) (by omega) (by omega)) rfl rfl (Nat.le_of_ble_eq_true rfl) (fun r101 h101 hq101 => ?_)
      obtain ⟨rfl, rfl⟩ := hq101
      refine sw_if_eq 116 107 dX12_spelled_104 (by decide) rfl (fun c104 => ?_) (fun c104 => ?_)
      · refine sw_iconst (v := zI (-1)) 117 dX12_spelled_116 rfl (by decide) ?_
        exact sw_iret dX12_spelled_117 rfl (by
  rw [ifz_eq] at c104
  refine ⟨I2, ?_⟩
  unfold opSpelled; rw [sa]
  by_cases c : (0 ≤ ((a : Nat) : Int) ∧ ((a : Nat) : Int) < 4) ∧ -1 ≤ i
  · rw [if_pos c, if_neg c83]; simp only [Int.toNat_natCast]; rw [if_neg (by omega)]
  · rw [if_neg c])
      · rw [ifz_eq, Decidable.not_not] at c104
        refine sw_aload_n 108 dX12_spelled_107 rfl rfl rfl ?_
        refine sw_getR (b := 22) 111 dX12_spelled_108 rfl gf_RX12_77 (fun _ _ _ _ => rfl) ⟨by decide, rfl⟩ rfl ?_
        refine sw_iload_n 112 dX12_spelled_111 rfl rfl rfl ?_
        refine sw_iald 113 dX12_spelled_112 rfl ⟨by decide, rfl⟩ (zI_in c104.1 (by omega) (by decide)) ?_
        refine sw_goto 117 dX12_spelled_113 (by decide) ?_
        exact sw_iret dX12_spelled_117 rfl (by
  unfold opSpelled; rw [sa, if_pos (by omega), if_neg c83]; simp only [Int.toNat_natCast]; rw [if_pos (by omega), zI_clamp (by omega) (by omega), pM_row]
  refine ⟨I2, ?_⟩
  unfold appR; rw [if_pos (by omega)]; rfl)
    · rw [zI_eq (by omega) (by omega) (by omega) (by omega)] at c83
      refine sw_aload_n 87 dX12_spelled_86 rfl rfl rfl ?_
      refine sw_getI 90 dX12_spelled_87 rfl gf_RX12_244 rfl ⟨by decide, rfl⟩ ?_
      refine sw_goto 117 dX12_spelled_90 (by decide) ?_
      exact sw_iret dX12_spelled_117 rfl (by
  unfold opSpelled; rw [sa, if_pos (by omega), if_pos c83]; exact ⟨I2, pM_k⟩)
  have loop : ∀ (a : Nat) (g : sw_H) (f : Nat → Int32), s = (a : Nat) → a < 4 → IM g σ → rwM g 9 σ.1.1.1 (σ.1.2.1.2 a) → ∀ (c j : Nat) (φ : Bool) (L : List Int), j + c = σ.1.1.1 → L.length ≤ 1 + 6 * j → L ++ (bodyZ σ.1.1.2.1 (σ.1.2.1.2 a) c j φ ++ (if firstZ (σ.1.2.1.2 a) c j φ then [49] else [])) = spS σ a → sw_wp wM X l (d + 2) mX12_spelled Qc 37 [(0, .ref 0), (1, .int (zI s)), (2, .int (zI i)), (3, .int (zI (if φ then 1 else 0))), (4, .int (zI j))] [] (pM g (appR f 0 L) L.length) := by
    intro a g f sa ha Ig R c
    have e0 : ∀ f k, (pM g f k).1 0 0 = zI σ.1.1.1 := fun f k => by rw [pM_fr.2.2 0 (by decide)]; exact Ig.1.1
    have e9 : ∀ f k i, i < σ.1.1.1 → (pM g f k).1 9 i = zI (σ.1.2.1.2 a i) := fun f k i hi => by rw [pM_fr.1 9 (by decide) (by decide)]; exact R i hi
    induction c with
    | zero =>
      intro j φ L hj hl hs
      have : j = σ.1.1.1 := by omega
      subst this
      have hs : L ++ (if φ then [49] else []) = spS σ a := hs
      refine sw_iload 39 dX12_spelled_37 rfl rfl ?_
      refine sw_aload_n 40 dX12_spelled_39 rfl rfl rfl ?_
      refine sw_getI 43 dX12_spelled_40 rfl gf_RX12_83 rfl ⟨by decide, rfl⟩ ?_
      rw [e0]
      refine sw_icmp_ge 71 46 dX12_spelled_43 (by decide) rfl (fun c43 => ?_) (fun c43 => ?_)
      · refine sw_iload_n 72 dX12_spelled_71 rfl rfl rfl ?_
        refine sw_if_eq 81 75 dX12_spelled_72 (by decide) rfl (fun c72 => ?_) (fun c72 => ?_)
        · cases φ with
          | true => exact absurd c72 (by decide)
          | false =>
            have e2 : L ++ [] = spS σ a := hs
            rw [List.append_nil] at e2
            rw [e2]
            exact sw_wp_sub (by simp) (fin a g f (zI (if false = true then 1 else 0)) sa ha Ig)
        · refine sw_aload_n 76 dX12_spelled_75 rfl rfl rfl ?_
          refine sw_bipush (v := zI 49) 78 dX12_spelled_76 rfl (by decide) ?_
          refine sw_invVV 81 dX12_spelled_78 rfl lk_RX12_247 (m_writes (k := L.length) (by omega) 49) ⟨by decide, rfl⟩ rfl rfl (Nat.le_of_ble_eq_true rfl) (fun h78 hq78 => ?_)
          subst hq78
          cases φ with
          | true =>
            have e : appR (appR f 0 L) L.length [49] = appR f 0 (L ++ [49]) := by have := appR_app f 0 L [49]; rw [Nat.zero_add] at this; exact this
            have e2 : L ++ [49] = spS σ a := hs
            rw [e, e2, show L.length + 1 = (spS σ a).length by rw [← e2, List.length_append]; rfl]
            exact sw_wp_sub (by simp) (fin a g f (zI (if true = true then 1 else 0)) sa ha Ig)
          | false => exact absurd rfl c72
      · exact absurd (Int32.le_refl _) c43
    | succ c ih =>
      intro j φ L hj hl hs
      have hin := zI_inN (a := j) (n := 4) (by omega) (by decide)
      have hej := e6 K ha (show j < σ.1.1.1 by omega)
      have bl : bodyZ σ.1.1.2.1 (σ.1.2.1.2 a) (c + 1) j φ = if σ.1.2.1.2 a j = 0 then bodyZ σ.1.1.2.1 (σ.1.2.1.2 a) c (j + 1) φ else (if φ then [] else [42]) ++ (facZ (σ.1.1.2.1 j) (σ.1.2.1.2 a j) ++ bodyZ σ.1.1.2.1 (σ.1.2.1.2 a) c (j + 1) false) := rfl
      have fl : firstZ (σ.1.2.1.2 a) (c + 1) j φ = if σ.1.2.1.2 a j = 0 then firstZ (σ.1.2.1.2 a) c (j + 1) φ else firstZ (σ.1.2.1.2 a) c (j + 1) false := rfl
      refine sw_iload 39 dX12_spelled_37 rfl rfl ?_
      refine sw_aload_n 40 dX12_spelled_39 rfl rfl rfl ?_
      refine sw_getI 43 dX12_spelled_40 rfl gf_RX12_83 rfl ⟨by decide, rfl⟩ ?_
      rw [e0]
      refine sw_icmp_ge 71 46 dX12_spelled_43 (by decide) rfl (fun c43 => ?_) (fun c43 => ?_)
      · exact absurd c43 (by rw [zI_le (by omega) (by omega) (by omega) (by omega)]; omega)
      · refine sw_aload_n 47 dX12_spelled_46 rfl rfl rfl ?_
        refine sw_getR (b := 9) 50 dX12_spelled_47 rfl gf_RX12_37 (fun _ _ _ _ => rfl) ⟨by decide, rfl⟩ rfl ?_
        refine sw_iload 52 dX12_spelled_50 rfl rfl ?_
        refine sw_iald 53 dX12_spelled_52 rfl ⟨by decide, rfl⟩ (by assumption) ?_
        rw [zI_clampN (by omega), e9 _ _ j (by omega)]
        refine sw_if_eq 65 56 dX12_spelled_53 (by decide) rfl (fun c53 => ?_) (fun c53 => ?_)
        · refine sw_iinc (v := zI 1) (lc' := [(0, _), (1, _), (2, _), (3, _), (4, _)]) 68 dX12_spelled_65 rfl (by decide) rfl rfl rfl ?_
          refine sw_goto 37 dX12_spelled_68 (by decide) ?_
          rw [z0, zI_eq (by omega) (by omega) (by omega) (by omega)] at c53
          rw [bl, fl, if_pos c53, if_pos c53] at hs
          rw [zI_add]
          exact ih (j + 1) φ L (by omega) (by omega) hs
        · rw [z0, zI_eq (by omega) (by omega) (by omega) (by omega)] at c53
          refine sw_aload_n 57 dX12_spelled_56 rfl rfl rfl ?_
          refine sw_iload 59 dX12_spelled_57 rfl rfl ?_
          refine sw_iload_n 60 dX12_spelled_59 rfl rfl rfl ?_
          refine sw_invVV 63 dX12_spelled_60 rfl lk_RX12_250 (m_writesPower (n := σ.1.1.1) (i := j) (k := L.length) (φ := φ) Ig.1 hn (by omega) (kB_2 K (by omega)) R hej (by omega)) ⟨by decide, rfl⟩ rfl rfl (Nat.le_of_ble_eq_true rfl) (fun h60 hq60 => ?_)
          subst hq60
          refine sw_iconst (v := zI 0) 64 dX12_spelled_63 rfl (by decide) ?_
          refine sw_istore_n (lc' := [(0, _), (1, _), (2, _), (3, _), (4, _)]) 65 dX12_spelled_64 rfl rfl (by decide) rfl ?_
          refine sw_iinc (v := zI 1) (lc' := [(0, _), (1, _), (2, _), (3, _), (4, _)]) 68 dX12_spelled_65 rfl (by decide) rfl rfl rfl ?_
          refine sw_goto 37 dX12_spelled_68 (by decide) ?_
          rw [bl, fl, if_neg c53, if_neg c53] at hs
          have fz := facZ_len (σ.1.1.2.1 j) (σ.1.2.1.2 a j)
          have pl : (if φ then ([] : List Int) else [42]).length ≤ 1 := by cases φ <;> simp
          have e : appR (appR f 0 L) L.length ((if φ then [] else [42]) ++ facZ (σ.1.1.2.1 j) (σ.1.2.1.2 a j)) = appR f 0 (L ++ ((if φ then [] else [42]) ++ facZ (σ.1.1.2.1 j) (σ.1.2.1.2 a j))) := by have := appR_app f 0 L ((if φ then [] else [42]) ++ facZ (σ.1.1.2.1 j) (σ.1.2.1.2 a j)); rw [Nat.zero_add] at this; exact this
          rw [e, ← List.length_append, zI_add]
          exact ih (j + 1) false _ (by omega) (by simp only [List.length_append]; omega) (by rw [← hs]; simp only [List.append_assoc])
  refine sw_iload_n 1 dX12_spelled_0 rfl rfl rfl ?_
  refine sw_invSI 4 dX12_spelled_1 rfl lk_RX12_132 (m_isShelf s1 s2) rfl rfl (Nat.le_of_ble_eq_true rfl) (fun r1 h1 hq1 => ?_)
  obtain ⟨rfl, rfl⟩ := hq1
  refine sw_if_ne 9 7 dX12_spelled_4 (by decide) rfl (fun c4 => ?_) (fun c4 => ?_)
  · rw [ifz_eq, Decidable.not_not] at c4
    obtain ⟨a, sa⟩ := Int.eq_ofNat_of_zero_le c4.1
    have ha : a < 4 := by omega
    have hsg := (K.1.2.1 a ha).1
    rw [sa]
    refine sw_aload_n 10 dX12_spelled_9 rfl rfl rfl ?_
    refine sw_iload_n 11 dX12_spelled_10 rfl rfl rfl ?_
    refine sw_invVV 14 dX12_spelled_11 rfl lk_RX12_137 (m_looks K I ha) ⟨by decide, rfl⟩ rfl rfl (Nat.le_of_ble_eq_true rfl) (fun h11 hq11 => ?_)
    obtain ⟨A, R, S⟩ := hq11
    have I2 := IM_fr I A (by decide) (by decide)
    refine sw_aload_n 15 dX12_spelled_14 rfl rfl rfl ?_
    refine sw_iconst (v := zI 0) 16 dX12_spelled_15 rfl (by decide) ?_
    refine sw_putI 19 dX12_spelled_16 rfl pf_RX12_244 rfl ⟨by decide, rfl⟩ ?_
    rw [show sw_wI h11 0 31 (zI 0) = pM h11 (appR (h11.1 22) 0 []) 0 from by unfold pM; rw [appR_nil, sw_pI_self rfl]; rfl]
    refine sw_aload_n 20 dX12_spelled_19 rfl rfl rfl ?_
    refine sw_getI 23 dX12_spelled_20 rfl gf_RX12_109 rfl ⟨by decide, rfl⟩ ?_
    rw [pM_fr.2.2 14 (by decide), S]
    refine sw_if_ge 32 26 dX12_spelled_23 (by decide) rfl (fun c23 => ?_) (fun c23 => ?_)
    · refine sw_iconst (v := zI 1) 33 dX12_spelled_32 rfl (by decide) ?_
      refine sw_istore_n (lc' := [(0, _), (1, _), (2, _), (3, _)]) 34 dX12_spelled_33 rfl rfl (by decide) rfl ?_
      refine sw_iconst (v := zI 0) 35 dX12_spelled_34 rfl (by decide) ?_
      refine sw_istore (lc' := [(0, _), (1, _), (2, _), (3, _), (4, _)]) 37 dX12_spelled_35 rfl (by decide) rfl ?_
      rw [z0, zI_le (by omega) (by omega) (by omega) (by omega)] at c23
      have g := loop a h11 (h11.1 22) sa ha I2 R σ.1.1.1 0 true [] (by omega) (by decide) (by unfold spS spellZ; rw [if_neg (show ¬ σ.1.2.1.1 a < 0 by omega)])
      rw [sa] at g
      exact g
    · refine sw_aload_n 27 dX12_spelled_26 rfl rfl rfl ?_
      refine sw_bipush (v := zI 45) 29 dX12_spelled_27 rfl (by decide) ?_
      refine sw_invVV 32 dX12_spelled_29 rfl lk_RX12_247 (m_writes (k := 0) (by decide) 45) ⟨by decide, rfl⟩ rfl rfl (Nat.le_of_ble_eq_true rfl) (fun h29 hq29 => ?_)
      subst hq29
      refine sw_iconst (v := zI 1) 33 dX12_spelled_32 rfl (by decide) ?_
      refine sw_istore_n (lc' := [(0, _), (1, _), (2, _), (3, _)]) 34 dX12_spelled_33 rfl rfl (by decide) rfl ?_
      refine sw_iconst (v := zI 0) 35 dX12_spelled_34 rfl (by decide) ?_
      refine sw_istore (lc' := [(0, _), (1, _), (2, _), (3, _), (4, _)]) 37 dX12_spelled_35 rfl (by decide) rfl ?_
      rw [z0, zI_le (by omega) (by omega) (by omega) (by omega)] at c23
      have g := loop a h11 (h11.1 22) sa ha I2 R σ.1.1.1 0 true [45] (by omega) (by decide) (by unfold spS spellZ; rw [if_pos (show σ.1.2.1.1 a < 0 by omega)])
      rw [sa] at g
      rw [appR_nil]
      exact g
  · rw [ifz_eq] at c4
    subst hQ
    refine sw_iconst (v := zI (-1)) 8 dX12_spelled_7 rfl (by decide) ?_
    exact sw_iret dX12_spelled_8 rfl (by
  unfold opSpelled; rw [if_neg (fun hh => c4 hh.1)]; exact ⟨I, rfl⟩)
end sw_m9
