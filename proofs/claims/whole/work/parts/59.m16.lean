/-! THE REFERENCE, 16: lots -/
section sw_m16
variable {X : sw_X} {l : Launch} {d : Nat} {h : sw_H} {σ : SgZ} {n : Nat} {p bx : Nat → Int}
theorem m_draw {x : Int32} (hx : h.1 0 25 = x) {m : Int} (m1 : 1 ≤ m) (m2 : m ≤ 100) : sw_ct wM X l d mX12_draw [.ref 0, .int (zI m)] h (sw_qI wM X fun r h2 => h2 = sw_wI h 0 25 (nxS x) ∧ r = zI (drZ (nxS x) m)) := by
  have h0 := and_nonneg (nxS x)
  have h1 := (nxS x &&& zI 2147483647).toInt_lt
  have e0 : (nxS x &&& zI 2147483647) = zI (nxS x &&& zI 2147483647).toInt := (Int32.ofInt_toInt _).symm
  have hz : ¬ zI m = 0 := by rw [z0, zI_eq (by omega) (by omega) (by omega) (by omega)]; omega
  have hz2 : ¬ zI 65536 = 0 := by decide
  have hq0 : 0 ≤ (nxS x &&& zI 2147483647).toInt / 65536 := Int.ediv_nonneg h0 (by decide)
  have hq1 : (nxS x &&& zI 2147483647).toInt / 65536 ≤ (nxS x &&& zI 2147483647).toInt := Int.ediv_le_self _ h0
  refine sw_ct_of (by decide +kernel) (Nat.le_of_ble_eq_true rfl) rfl ?_
  refine sw_aload_n 1 dX12_draw_0 rfl rfl rfl ?_
  refine sw_aload_n 2 dX12_draw_1 rfl rfl rfl ?_
  refine sw_getI 5 dX12_draw_2 rfl gf_RX12_198 rfl ⟨by decide, rfl⟩ ?_
  rw [hx]
  refine sw_ldc 7 dX12_draw_5 rfl (show Cond.constant RX12 201 (zI (1103515245)) ∈ sw_big from kk_RX12_201) ?_
  refine sw_imul 8 dX12_draw_7 rfl ?_
  refine sw_sipush (v := zI 12345) 11 dX12_draw_8 rfl (by decide) ?_
  refine sw_iadd 12 dX12_draw_11 rfl ?_
  refine sw_putI 15 dX12_draw_12 rfl pf_RX12_198 rfl ⟨by decide, rfl⟩ ?_
  rw [show x * zI 1103515245 + zI 12345 = nxS x from rfl]
  refine sw_aload_n 16 dX12_draw_15 rfl rfl rfl ?_
  refine sw_getI 19 dX12_draw_16 rfl gf_RX12_198 rfl ⟨by decide, rfl⟩ ?_
  rw [show (sw_wI h 0 25 (nxS x)).1 0 25 = nxS x by rw [sw_wI_at]; simp [va_up]]
  refine sw_ldc 21 dX12_draw_19 rfl (show Cond.constant RX12 202 (zI (2147483647)) ∈ sw_big from kk_RX12_202) ?_
  refine sw_iand 22 dX12_draw_21 rfl ?_
  rw [e0]
  refine sw_ldc 24 dX12_draw_22 rfl (show Cond.constant RX12 203 (zI (65536)) ∈ sw_big from kk_RX12_203) ?_
  refine sw_idiv 25 dX12_draw_24 rfl (by first | assumption | decide) ?_
  rw [zI_div (by omega) (by omega) (by omega) (by omega), Int.tdiv_eq_ediv_of_nonneg h0]
  refine sw_iload_n 26 dX12_draw_25 rfl rfl rfl ?_
  refine sw_irem 27 dX12_draw_26 rfl (by first | assumption | decide) ?_
  exact sw_iret dX12_draw_27 rfl (⟨rfl, by rw [zI_rem (by omega) (by omega) (by omega) (by omega), Int.tmod_eq_emod_of_nonneg hq0]; rfl⟩)
theorem ans_wh (K : okS σ) {e : Nat → Int} {sg : Int} (he : e6Z σ.1.1.1 e) (hs : sg = 1 ∨ sg = -1) : 0 ≤ whT (tabS σ) (aU σ.1.1.1 σ.1.1.2.1 e sg) (bU σ.1.1.1 σ.1.1.2.1 e) ↔ ansB σ.1.1.1 σ.1.1.2.1 σ.1.1.2.2 e sg = true := by
  rw [wh_in (tab_srt K.1.1), tab_in K.1.1, ansB_iff (fun i hi => by have := (K.1.1.2.2.2.2 i hi).2; omega) (copP_of K.1.1) hs he]
theorem lots_inM (K : okS σ) {Qc : sw_Q} {v1 v2 v3 v4 x : Int32} (kont : ∀ H, IM H σ → H.1 0 25 = itS σ.1.1.1 x → rwM H 9 σ.1.1.1 (lotE σ.1.1.2.2 x) → sw_wp wM X l (d + 4) mX12_lots Qc 77 [(0, .ref 0), (1, .int v1), (2, .int v2), (3, .int v3), (4, .int v4)] [] H) : ∀ (c j : Nat) (H : sw_H), j + c = σ.1.1.1 → IM H σ → H.1 0 25 = itS j x → (∀ t, t < j → H.1 9 t = zI (lotE σ.1.1.2.2 x t)) → sw_wp wM X l (d + 4) mX12_lots Qc 32 [(0, .ref 0), (1, .int v1), (2, .int v2), (3, .int v3), (4, .int v4), (5, .int (zI j))] [] H := by
  have hn := K.1.1.1
  intro c
  induction c with
  | zero =>
    intro j H hj IH h25 hE
    have : j = σ.1.1.1 := by omega
    subst this
    refine sw_iload 34 dX12_lots_32 rfl rfl ?_
    refine sw_aload_n 35 dX12_lots_34 rfl rfl rfl ?_
    refine sw_getI 38 dX12_lots_35 rfl gf_RX12_83 rfl ⟨by decide, rfl⟩ ?_
    rw [IH.1.1]
    refine sw_icmp_ge 77 41 dX12_lots_38 (by decide) rfl (fun c38 => ?_) (fun c38 => ?_)
    · exact sw_wp_sub (by simp) (kont _ IH h25 hE)
    · exact absurd (Int32.le_refl _) c38
  | succ c ih =>
    intro j H hj IH h25 hE
    have hin := zI_inN (a := j) (n := 5) (by omega) (by decide)
    have hin4 := zI_inN (a := j) (n := 4) (by omega) (by decide)
    have hb := K.1.1.2.2.2.2 j (by omega)
    have vb := (IH.1.2 j (by omega)).2
    have db := drZ_b (itS (j + 1) x) (m := 2 * σ.1.1.2.2 j + 1) (by omega)
    have A : frM [9] [25] H (sw_wI H 0 25 (nxS (itS j x))) := frM_w0 (by decide)
    have vb2 : (sw_wI H 0 25 (nxS (itS j x))).1 2 j = zI (σ.1.1.2.2 j) := by rw [sw_wI_ne (by decide)]; exact vb
    refine sw_iload 34 dX12_lots_32 rfl rfl ?_
    refine sw_aload_n 35 dX12_lots_34 rfl rfl rfl ?_
    refine sw_getI 38 dX12_lots_35 rfl gf_RX12_83 rfl ⟨by decide, rfl⟩ ?_
    rw [IH.1.1]
    refine sw_icmp_ge 77 41 dX12_lots_38 (by decide) rfl (fun c38 => ?_) (fun c38 => ?_)
    · exact absurd c38 (by rw [zI_le (by omega) (by omega) (by omega) (by omega)]; omega)
    · refine sw_aload_n 42 dX12_lots_41 rfl rfl rfl ?_
      refine sw_getR (b := 9) 45 dX12_lots_42 rfl gf_RX12_37 (fun _ _ _ _ => rfl) ⟨by decide, rfl⟩ rfl ?_
      refine sw_iload 47 dX12_lots_45 rfl rfl ?_
      refine sw_aload_n 48 dX12_lots_47 rfl rfl rfl ?_
      refine sw_iconst (v := zI 2) 49 dX12_lots_48 rfl (by decide) ?_
      refine sw_aload_n 50 dX12_lots_49 rfl rfl rfl ?_
      refine sw_getR (b := 2) 53 dX12_lots_50 rfl gf_RX12_15 (fun _ _ _ _ => rfl) ⟨by decide, rfl⟩ rfl ?_
      refine sw_iload 55 dX12_lots_53 rfl rfl ?_
      refine sw_iald 56 dX12_lots_55 rfl ⟨by decide, rfl⟩ (by assumption) ?_
      rw [zI_clampN (by omega), vb]
      refine sw_imul 57 dX12_lots_56 rfl ?_
      refine sw_iconst (v := zI 1) 58 dX12_lots_57 rfl (by decide) ?_
      refine sw_iadd 59 dX12_lots_58 rfl ?_
      rw [zI_mul, zI_add]
      refine sw_invVI 62 dX12_lots_59 rfl lk_RX12_204 (m_draw h25 (by omega) (by omega)) ⟨by decide, rfl⟩ rfl rfl (Nat.le_of_ble_eq_true rfl) (fun r59 h59 hq59 => ?_)
      obtain ⟨rfl, rfl⟩ := hq59
      refine sw_aload_n 63 dX12_lots_62 rfl rfl rfl ?_
      refine sw_getR (b := 2) 66 dX12_lots_63 rfl gf_RX12_15 (fun _ _ _ _ => rfl) ⟨by decide, rfl⟩ rfl ?_
      refine sw_iload 68 dX12_lots_66 rfl rfl ?_
      refine sw_iald 69 dX12_lots_68 rfl ⟨by decide, rfl⟩ (by assumption) ?_
      rw [zI_clampN (by omega), vb2]
      refine sw_isub 70 dX12_lots_69 rfl ?_
      rw [zI_sub]
      refine sw_iast 71 dX12_lots_70 rfl ⟨by decide, rfl⟩ (by assumption) ?_
      refine sw_iinc (v := zI 1) (lc' := [(0, _), (1, _), (2, _), (3, _), (4, _), (5, _)]) 74 dX12_lots_71 rfl (by decide) rfl rfl rfl ?_
      refine sw_goto 32 dX12_lots_74 (by decide) ?_
      rw [zI_add, zI_clampN (by omega)]
      refine ih (j + 1) _ (by omega) (IM_fr IH (frM_tr A (frM_wI (by decide) (by decide))) (by decide) (by decide)) (by rw [sw_wI_ne (by decide), sw_wI_at]; simp [va_up, itS]) (fun t ht => ?_)
      rw [sw_wI_at]
      unfold va_up
      by_cases e : t = j
      · rw [if_pos e, e]; rfl
      · rw [if_neg e, sw_wI_ne (by decide)]; exact hE t (by omega)
theorem m_lots (K : okS σ) (I : IM h σ) {n : Int} {z : Int32} (n1 : -2147483648 ≤ n) (n2 : n < 2147483648) : sw_ct wM X l (d + 4) mX12_lots [.ref 0, .int (zI n), .int z] h (sw_qI wM X fun r h2 => IM h2 σ ∧ r = zI (opLots (tabS σ) σ n z)) := by
  have kB := K.1.1
  have eb : ∀ x, e6Z σ.1.1.1 (lotE σ.1.1.2.2 x) := fun x i hi => by
    have h1 := kB.2.2.2.2 i hi
    have h2 := drZ_b (itS (i + 1) x) (m := 2 * σ.1.1.2.2 i + 1) (by omega)
    unfold lotE; omega
  have loop : ∀ (L c k : Nat) (H : sw_H), n = (L : Nat) → L ≤ 50 → k + c = L → IM H σ → H.1 0 25 = sdS σ.1.1.1 k z → sw_wp wM X l (d + 4) mX12_lots (sw_qI wM X fun r h2 => IM h2 σ ∧ r = zI (lotsN (tabS σ) σ z L)) 23 [(0, .ref 0), (1, .int (zI n)), (2, .int z), (3, .int (zI (lotsN (tabS σ) σ z k))), (4, .int (zI k))] [] H := by
    intro L c
    induction c with
    | zero =>
      intro k H hnL hL hk IH h25
      have : k = L := by omega
      subst this
      refine sw_iload 25 dX12_lots_23 rfl rfl ?_
      refine sw_iload_n 26 dX12_lots_25 rfl rfl rfl ?_
      refine sw_icmp_ge 116 29 dX12_lots_26 (by decide) rfl (fun c26 => ?_) (fun c26 => ?_)
      · refine sw_iload_n 117 dX12_lots_116 rfl rfl rfl ?_
        exact sw_iret dX12_lots_117 rfl (⟨IH, rfl⟩)
      · exact absurd (by rw [hnL]; exact Int32.le_refl _) c26
    | succ c ih =>
      intro k H hnL hL hk IH h25
      have e9 : lotsN (tabS σ) σ z (k + 1) = lotsN (tabS σ) σ z k + if 0 ≤ whT (tabS σ) (lotA σ (sdS σ.1.1.1 k z)) (lotB σ (sdS σ.1.1.1 k z)) then 1 else 0 := rfl
      have hl := lotsN_le (tabS σ) σ z k
      have es : sdS σ.1.1.1 (k + 1) z = nxS (itS σ.1.1.1 (sdS σ.1.1.1 k z)) := rfl
      have aw := ans_wh K (eb (sdS σ.1.1.1 k z)) (lotG_1 σ.1.1.1 (sdS σ.1.1.1 k z))
      have aw : 0 ≤ whT (tabS σ) (lotA σ (sdS σ.1.1.1 k z)) (lotB σ (sdS σ.1.1.1 k z)) ↔ ansB σ.1.1.1 σ.1.1.2.1 σ.1.1.2.2 (lotE σ.1.1.2.2 (sdS σ.1.1.1 k z)) (lotG σ.1.1.1 (sdS σ.1.1.1 k z)) = true := aw
      have tail : ∀ (g : sw_H), IM g σ → g.1 0 25 = nxS (itS σ.1.1.1 (sdS σ.1.1.1 k z)) → rwM g 9 σ.1.1.1 (lotE σ.1.1.2.2 (sdS σ.1.1.1 k z)) → g.1 0 14 = zI (lotG σ.1.1.1 (sdS σ.1.1.1 k z)) → sw_wp wM X l (d + 4) mX12_lots (sw_qI wM X fun r h2 => IM h2 σ ∧ r = zI (lotsN (tabS σ) σ z L)) 95 [(0, .ref 0), (1, .int (zI n)), (2, .int z), (3, .int (zI (lotsN (tabS σ) σ z k))), (4, .int (zI k))] [] g := by
        intro g Ig g25 gE gS
        refine sw_iload_n 96 dX12_lots_95 rfl rfl rfl ?_
        refine sw_aload_n 97 dX12_lots_96 rfl rfl rfl ?_
        refine sw_invVI 100 dX12_lots_97 rfl lk_RX12_173 (m_isAnswer Ig.1 kB gE (eb _) gS (lotG_1 _ _)) ⟨by decide, rfl⟩ rfl rfl (Nat.le_of_ble_eq_true rfl) (fun r97 h97 hq97 => ?_)
        obtain ⟨B, rfl⟩ := hq97
        have i9 := ih (k + 1) _ hnL hL (by omega) (IM_fr Ig B (by decide) (by decide)) (by rw [B.2.2 25 (by decide), es]; exact g25)
        refine sw_if_eq 107 103 dX12_lots_100 (by decide) rfl (fun c100 => ?_) (fun c100 => ?_)
        · refine sw_iconst (v := zI 0) 108 dX12_lots_107 rfl (by decide) ?_
          refine sw_iadd 109 dX12_lots_108 rfl ?_
          refine sw_istore_n (lc' := [(0, _), (1, _), (2, _), (3, _), (4, _)]) 110 dX12_lots_109 rfl rfl (by decide) rfl ?_
          refine sw_iinc (v := zI 1) (lc' := [(0, _), (1, _), (2, _), (3, _), (4, _)]) 113 dX12_lots_110 rfl (by decide) rfl rfl rfl ?_
          refine sw_goto 23 dX12_lots_113 (by decide) ?_
          rw [bIz_eq] at c100
          rw [e9, if_neg (fun q => by rw [aw.mp q] at c100; cases c100), Nat.add_zero] at i9
          simp only [zI_add]
          exact i9
        · refine sw_iconst (v := zI 1) 104 dX12_lots_103 rfl (by decide) ?_
          refine sw_goto 108 dX12_lots_104 (by decide) ?_
          refine sw_iadd 109 dX12_lots_108 rfl ?_
          refine sw_istore_n (lc' := [(0, _), (1, _), (2, _), (3, _), (4, _)]) 110 dX12_lots_109 rfl rfl (by decide) rfl ?_
          refine sw_iinc (v := zI 1) (lc' := [(0, _), (1, _), (2, _), (3, _), (4, _)]) 113 dX12_lots_110 rfl (by decide) rfl rfl rfl ?_
          refine sw_goto 23 dX12_lots_113 (by decide) ?_
          rw [bIz_eq, Bool.not_eq_false] at c100
          rw [e9, if_pos (aw.mpr c100)] at i9
          simp only [zI_add]
          exact i9
      have fin : ∀ (g : sw_H) (s : Int), IM g σ → g.1 0 25 = nxS (itS σ.1.1.1 (sdS σ.1.1.1 k z)) → rwM g 9 σ.1.1.1 (lotE σ.1.1.2.2 (sdS σ.1.1.1 k z)) → s = lotG σ.1.1.1 (sdS σ.1.1.1 k z) → sw_wp wM X l (d + 4) mX12_lots (sw_qI wM X fun r h2 => IM h2 σ ∧ r = zI (lotsN (tabS σ) σ z L)) 95 [(0, .ref 0), (1, .int (zI n)), (2, .int z), (3, .int (zI (lotsN (tabS σ) σ z k))), (4, .int (zI k))] [] (sw_wI g 0 14 (zI s)) := by
        intro g s Ig g25 gE hs
        subst hs
        have A : frM [] [14] g (sw_wI g 0 14 (zI (lotG σ.1.1.1 (sdS σ.1.1.1 k z)))) := frM_w0 (by decide)
        exact tail _ (IM_fr Ig A (by decide) (by decide)) (by rw [A.2.2 25 (by decide)]; exact g25) (rwM_fr gE A (by decide) (by decide)) (by rw [sw_wI_at]; simp [va_up])
      have sgn : ∀ (g : sw_H), IM g σ → g.1 0 25 = itS σ.1.1.1 (sdS σ.1.1.1 k z) → rwM g 9 σ.1.1.1 (lotE σ.1.1.2.2 (sdS σ.1.1.1 k z)) → sw_wp wM X l (d + 4) mX12_lots (sw_qI wM X fun r h2 => IM h2 σ ∧ r = zI (lotsN (tabS σ) σ z L)) 77 [(0, .ref 0), (1, .int (zI n)), (2, .int z), (3, .int (zI (lotsN (tabS σ) σ z k))), (4, .int (zI k))] [] g := by
        intro g Ig g25 gE
        have db := drZ_b (itS (σ.1.1.1 + 1) (sdS σ.1.1.1 k z)) (m := 2) (by omega)
        have A : frM [] [25] g (sw_wI g 0 25 (nxS (itS σ.1.1.1 (sdS σ.1.1.1 k z)))) := frM_w0 (by decide)
        have I2 := IM_fr Ig A (by decide) (by decide)
        have E2 := rwM_fr gE A (by decide) (by decide)
        have h25b : (sw_wI g 0 25 (nxS (itS σ.1.1.1 (sdS σ.1.1.1 k z)))).1 0 25 = nxS (itS σ.1.1.1 (sdS σ.1.1.1 k z)) := by rw [sw_wI_at]; simp [va_up]
        refine sw_aload_n 78 dX12_lots_77 rfl rfl rfl ?_
        refine sw_aload_n 79 dX12_lots_78 rfl rfl rfl ?_
        refine sw_iconst (v := zI 2) 80 dX12_lots_79 rfl (by decide) ?_
        refine sw_invVI 83 dX12_lots_80 rfl lk_RX12_204 (m_draw g25 (by omega) (by omega)) ⟨by decide, rfl⟩ rfl rfl (Nat.le_of_ble_eq_true rfl) (fun r80 h80 hq80 => ?_)
        obtain ⟨rfl, rfl⟩ := hq80
        rw [show drZ (nxS (itS σ.1.1.1 (sdS σ.1.1.1 k z))) 2 = drZ (itS (σ.1.1.1 + 1) (sdS σ.1.1.1 k z)) 2 from rfl]
        refine sw_iconst (v := zI 1) 84 dX12_lots_83 rfl (by decide) ?_
        refine sw_icmp_ne 91 87 dX12_lots_84 (by decide) rfl (fun c84 => ?_) (fun c84 => ?_)
        · refine sw_iconst (v := zI 1) 92 dX12_lots_91 rfl (by decide) ?_
          refine sw_putI 95 dX12_lots_92 rfl pf_RX12_109 rfl ⟨by decide, rfl⟩ ?_
          rw [zI_eq (by omega) (by omega) (by omega) (by omega)] at c84
          exact fin _ 1 I2 h25b E2 (by unfold lotG; rw [if_neg (by omega)])
        · refine sw_iconst (v := zI (-1)) 88 dX12_lots_87 rfl (by decide) ?_
          refine sw_goto 92 dX12_lots_88 (by decide) ?_
          refine sw_putI 95 dX12_lots_92 rfl pf_RX12_109 rfl ⟨by decide, rfl⟩ ?_
          rw [zI_eq (by omega) (by omega) (by omega) (by omega)] at c84
          exact fin _ (-1) I2 h25b E2 (by unfold lotG; rw [if_pos (by omega)])
      refine sw_iload 25 dX12_lots_23 rfl rfl ?_
      refine sw_iload_n 26 dX12_lots_25 rfl rfl rfl ?_
      refine sw_icmp_ge 116 29 dX12_lots_26 (by decide) rfl (fun c26 => ?_) (fun c26 => ?_)
      · exact absurd c26 (by rw [hnL, zI_le (by omega) (by omega) (by omega) (by omega)]; omega)
      · refine sw_iconst (v := zI 0) 30 dX12_lots_29 rfl (by decide) ?_
        refine sw_istore (lc' := [(0, _), (1, _), (2, _), (3, _), (4, _), (5, _)]) 32 dX12_lots_30 rfl (by decide) rfl ?_
        refine lots_inM K (x := sdS σ.1.1.1 k z) ?_ σ.1.1.1 0 _ (by omega) IH h25 (fun t ht => absurd ht (Nat.not_lt_zero t))
        exact sgn
  refine sw_ct_of (by decide +kernel) (Nat.le_of_ble_eq_true rfl) rfl ?_
  refine sw_iload_n 1 dX12_lots_0 rfl rfl rfl ?_
  refine sw_iconst (v := zI 1) 2 dX12_lots_1 rfl (by decide) ?_
  refine sw_bipush (v := zI 50) 4 dX12_lots_2 rfl (by decide) ?_
  refine sw_invSI 7 dX12_lots_4 rfl lk_RX12_87 (c_in n1 n2 (by decide) (by decide) (by decide) (by decide)) rfl rfl (Nat.le_of_ble_eq_true rfl) (fun r4 h4 hq4 => ?_)
  obtain ⟨rfl, rfl⟩ := hq4
  refine sw_if_ne 13 10 dX12_lots_7 (by decide) rfl (fun c7 => ?_) (fun c7 => ?_)
  · rw [ifz_eq, Decidable.not_not] at c7
    refine sw_aload_n 14 dX12_lots_13 rfl rfl rfl ?_
    refine sw_iload_n 15 dX12_lots_14 rfl rfl rfl ?_
    refine sw_putI 18 dX12_lots_15 rfl pf_RX12_198 rfl ⟨by decide, rfl⟩ ?_
    refine sw_iconst (v := zI 0) 19 dX12_lots_18 rfl (by decide) ?_
    refine sw_istore_n (lc' := [(0, _), (1, _), (2, _), (3, _)]) 20 dX12_lots_19 rfl rfl (by decide) rfl ?_
    refine sw_iconst (v := zI 0) 21 dX12_lots_20 rfl (by decide) ?_
    refine sw_istore (lc' := [(0, _), (1, _), (2, _), (3, _), (4, _)]) 23 dX12_lots_21 rfl (by decide) rfl ?_
    unfold opLots; rw [if_neg (by omega)]
    obtain ⟨L, rfl⟩ := Int.eq_ofNat_of_zero_le (show 0 ≤ n by omega)
    exact loop L L 0 _ rfl (by omega) (by omega) (IM_fr I (frM_w0 (L := []) (F := [25]) (by decide)) (by decide) (by decide)) (by rw [sw_wI_at]; simp [va_up, sdS])
  · refine sw_bipush (v := zI (-2)) 12 dX12_lots_10 rfl (by decide) ?_
    exact sw_iret dX12_lots_12 rfl (by
  rw [ifz_eq] at c7
  unfold opLots; rw [if_pos (by omega)]; exact ⟨I, rfl⟩)
end sw_m16
