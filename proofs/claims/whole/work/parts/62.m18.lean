/-! THE REFERENCE, 18: what is left -/
section sw_m18
variable {X : sw_X} {l : Launch} {d : Nat} {h : sw_H} {σ : SgZ}
abbrev qS (σ : SgZ) (s : Nat) : Nat := (σ.1.2.2.2 s).toNat
noncomputable abbrev pS (σ : SgZ) (u s : Nat) : Bool := pasU σ.1.1.1 σ.1.1.2.1 σ.1.1.2.2 (qS σ) (fun s => mkM (qS σ s) σ.1.1.1 σ.1.1.2.1) u s
abbrev uS (σ : SgZ) : Nat := 2 * rdx σ.1.1.2.2 σ.1.1.1
theorem left_eq (K : okS σ) : leftZ σ.1 = (cntB (fun u => pasB (pS σ u) σ.1.2.2.1) (uS σ) : Nat) := left_cnt (fun s hs => okQ_s K hs) (fun i hi => (K.1.1.2.2.2.2 i hi).1)
/-- the units' loop for one sieve -/
theorem left_in (K : okS σ) {Qc : sw_Q} {s : Nat} (hs : s < σ.1.2.2.1) (hU : uS σ ≤ 13122)
    (kont : ∀ (g : sw_H), IM g σ → (∀ v, v < uS σ → g.1 21 v = bI (pasB (pS σ v) (s + 1))) → sw_wp wM X l (d + 2) mX12_left Qc 142 [(0, .ref 0), (1, .int (zI (uS σ))), (2, .int (zI s))] [] g) :
    ∀ (c u : Nat) (g : sw_H) (v3 : Int32), u + c = uS σ → IM g σ → rwM g 9 σ.1.1.1 (dgE σ.1.1.2.2 (u / 2)) → g.1 0 14 = zI (sgU u) → invD g σ.1.1.1 (qS σ s) σ.1.1.2.1 → (∀ r, r < qS σ s → g.1 19 r = bI (mkM (qS σ s) σ.1.1.1 σ.1.1.2.1 r)) → (∀ v, v < uS σ → g.1 21 v = bI (pasB (pS σ v) (if v < u then s + 1 else s))) → sw_wp wM X l (d + 2) mX12_left Qc 89 [(0, .ref 0), (1, .int (zI (uS σ))), (2, .int (zI s)), (3, .int v3), (4, .int (zI u))] [] g := by
  have hn := K.1.1.1
  have hb := K.1.1.2.2.2.2
  have O := okQ_s K hs
  have hk := K.1.2.2.1
  have hs5 := zI_inN (a := s) (n := 5) (by omega) (by decide)
  intro c
  induction c with
  | zero =>
    intro u g v3 hu Ig R S D M P
    have : u = uS σ := by omega
    subst this
    refine sw_iload 91 dX12_left_89 rfl rfl ?_
    refine sw_iload_n 92 dX12_left_91 rfl rfl rfl ?_
    refine sw_icmp_ge 142 95 dX12_left_92 (by decide) rfl (fun c92 => ?_) (fun c92 => ?_)
    · exact sw_wp_sub (by simp) (kont g Ig (fun v hv => by rw [P v hv, if_pos hv]))
    · exact absurd (Int32.le_refl _) c92
  | succ c ih =>
    intro u g v3 hu Ig R S D M P
    have hu2 : u < uS σ := by omega
    have hin := zI_inN (a := u) (n := 13122) (by omega) (by decide)
    have e6 := dg6 hb (u / 2)
    have Pu := P u hu2
    rw [if_neg (by omega)] at Pu
    have es : g.1 5 s = zI (qS σ s : Nat) := by
      rw [Ig.2.2.1.2 s hs]
      have := (K.1.2.2.2.1 s hs).2.1
      unfold qS
      congr 1; omega
    have fin : ∀ V9 : Int32, V9 = bI (pasB (pS σ u) (s + 1)) → sw_wp wM X l (d + 2) mX12_left Qc 129 [(0, .ref 0), (1, .int (zI (uS σ))), (2, .int (zI s)), (3, .int v3), (4, .int (zI u))] [.int V9, .int (zI u), .ref 21] g := by
      intro V9 hV
      subst hV
      have hx := bI_01 (pasB (pS σ u) (s + 1))
      have A : frM [21] [] g (sw_wI g 21 u (bI (pasB (pS σ u) (s + 1)))) := frM_wI (by decide) (by decide)
      have I2 := IM_fr Ig A (by decide) (by decide)
      have on := m_looksOn (X := X) (l := l) (d := d + 1) I2.1 hn hb hu2 (rwM_fr R A (by decide) (by decide)) (show (sw_wI g 21 u (bI (pasB (pS σ u) (s + 1)))).1 0 14 = zI (sgU u) by rw [A.2.2 14 (by decide)]; exact S)
      refine sw_zast 130 (by assumption) dX12_left_129 rfl ⟨by decide, rfl⟩ (by assumption) ?_
      rw [zI_clampN (by omega)]
      refine sw_aload_n 131 dX12_left_130 rfl rfl rfl ?_
      refine sw_invVI 134 dX12_left_131 rfl lk_RX12_179 (on) ⟨by decide, rfl⟩ rfl rfl (Nat.le_of_ble_eq_true rfl) (fun r131 h131 hq131 => ?_)
      obtain ⟨B, rfl, R3, S3⟩ := hq131
      refine sw_istore (lc' := [(0, _), (1, _), (2, _), (3, _), (4, _), (5, _)]) 136 dX12_left_134 rfl (by decide) rfl ?_
      refine sw_iinc (v := zI 1) (lc' := [(0, _), (1, _), (2, _), (3, _), (4, _), (5, _)]) 139 dX12_left_136 rfl (by decide) rfl rfl rfl ?_
      refine sw_goto 89 dX12_left_139 (by decide) ?_
      rw [zI_add]
      refine sw_wp_sub (by simp) (ih (u + 1) _ v3 (by omega) (IM_fr I2 B (by decide) (by decide)) R3 S3 (fun i hi => ?_) (fun r hr => ?_) (fun v hv => ?_))
      · rw [B.1 20 (by decide) (by decide), A.1 20 (by decide) (by decide)]; exact D i hi
      · rw [B.1 19 (by decide) (by decide), A.1 19 (by decide) (by decide)]; exact M r hr
      · rw [B.1 21 (by decide) (by decide), sw_wI_at]
        unfold va_up
        by_cases ev : v = u
        · rw [if_pos ev, if_pos (by omega), ev]
        · rw [if_neg ev, P v hv]
          by_cases e2 : v < u
          · rw [if_pos e2, if_pos (by omega)]
          · rw [if_neg e2, if_neg (by omega)]
    have le : pasB (pS σ u) (s + 1) = (pasB (pS σ u) s && pS σ u s) := rfl
    refine sw_iload 91 dX12_left_89 rfl rfl ?_
    refine sw_iload_n 92 dX12_left_91 rfl rfl rfl ?_
    refine sw_icmp_ge 142 95 dX12_left_92 (by decide) rfl (fun c92 => ?_) (fun c92 => ?_)
    · exact absurd c92 (by rw [zI_le (by omega) (by omega) (by omega) (by omega)]; omega)
    · refine sw_aload_n 96 dX12_left_95 rfl rfl rfl ?_
      refine sw_getR (b := 21) 99 dX12_left_96 rfl gf_RX12_74 (fun _ _ _ _ => rfl) ⟨by decide, rfl⟩ rfl ?_
      refine sw_iload 101 dX12_left_99 rfl rfl ?_
      refine sw_aload_n 102 dX12_left_101 rfl rfl rfl ?_
      refine sw_getR (b := 21) 105 dX12_left_102 rfl gf_RX12_74 (fun _ _ _ _ => rfl) ⟨by decide, rfl⟩ rfl ?_
      refine sw_iload 107 dX12_left_105 rfl rfl ?_
      refine sw_zald 108 dX12_left_107 rfl ⟨by decide, rfl⟩ (by assumption) ?_
      rw [zI_clampN (by omega), Pu]
      refine sw_if_eq 128 111 dX12_left_108 (by decide) rfl (fun c108 => ?_) (fun c108 => ?_)
      · refine sw_iconst (v := zI 0) 129 dX12_left_128 rfl (by decide) ?_
        rw [bIz_eq] at c108
        exact fin _ (by rw [le, c108]; rfl)
      · rw [bIz_eq, Bool.not_eq_false] at c108
        refine sw_aload_n 112 dX12_left_111 rfl rfl rfl ?_
        refine sw_aload_n 113 dX12_left_112 rfl rfl rfl ?_
        refine sw_getR (b := 5) 116 dX12_left_113 rfl gf_RX12_24 (fun _ _ _ _ => rfl) ⟨by decide, rfl⟩ rfl ?_
        refine sw_iload_n 117 dX12_left_116 rfl rfl rfl ?_
        refine sw_iald 118 dX12_left_117 rfl ⟨by decide, rfl⟩ (by assumption) ?_
        rw [zI_clampN (by omega), es]
        refine sw_invVI 121 dX12_left_118 rfl lk_RX12_222 (m_isPassing Ig.1 hn O R e6 S (sgU_1 u) D M) ⟨by decide, rfl⟩ rfl rfl (Nat.le_of_ble_eq_true rfl) (fun r118 h118 hq118 => ?_)
        obtain ⟨rfl, rfl⟩ := hq118
        refine sw_if_eq 128 124 dX12_left_121 (by decide) rfl (fun c121 => ?_) (fun c121 => ?_)
        · refine sw_iconst (v := zI 0) 129 dX12_left_128 rfl (by decide) ?_
          rw [bIz_eq] at c121
          exact fin _ (by rw [le, c108, show pS σ u s = false from c121]; rfl)
        · refine sw_iconst (v := zI 1) 125 dX12_left_124 rfl (by decide) ?_
          refine sw_goto 129 dX12_left_125 (by decide) ?_
          rw [bIz_eq, Bool.not_eq_false] at c121
          exact fin _ (by rw [le, c108, show pS σ u s = true from c121]; rfl)
theorem m_left (K : okS σ) (I : IM h σ) : sw_ct wM X l (d + 2) mX12_left [.ref 0] h (sw_qI wM X fun r h2 => IM h2 σ ∧ r = zI (leftZ σ.1)) := by
  have hn := K.1.1.1
  have hb := K.1.1.2.2.2.2
  have hk := K.1.2.2.1
  have r9 := rdx_6561 hb hn
  have hU : uS σ ≤ 13122 := by unfold uS; omega
  refine sw_ct_of (by decide +kernel) (Nat.le_of_ble_eq_true rfl) rfl ?_
  generalize hQ : (sw_qI wM X fun r h2 => IM h2 σ ∧ r = zI (leftZ σ.1)) = Qc
  have cnt : ∀ (g : sw_H), IM g σ → (∀ v, v < uS σ → g.1 21 v = bI (pasB (pS σ v) σ.1.2.2.1)) → ∀ (c u : Nat), u + c = uS σ → sw_wp wM X l (d + 2) mX12_left Qc 152 [(0, .ref 0), (1, .int (zI (uS σ))), (2, .int (zI (cntB (fun u => pasB (pS σ u) σ.1.2.2.1) u))), (3, .int (zI u))] [] g := by
    intro g Ig P c
    subst hQ
    induction c with
    | zero =>
      intro u hu
      have : u = uS σ := by omega
      subst this
      refine sw_iload_n 153 dX12_left_152 rfl rfl rfl ?_
      refine sw_iload_n 154 dX12_left_153 rfl rfl rfl ?_
      refine sw_icmp_ge 180 157 dX12_left_154 (by decide) rfl (fun c154 => ?_) (fun c154 => ?_)
      · refine sw_iload_n 181 dX12_left_180 rfl rfl rfl ?_
        exact sw_iret dX12_left_181 rfl (⟨Ig, by rw [left_eq K]⟩)
      · exact absurd (Int32.le_refl _) c154
    | succ c ih =>
      intro u hu
      have hin := zI_inN (a := u) (n := 13122) (by omega) (by decide)
      have Pu := P u (by omega)
      have i9 := ih (u + 1) (by omega)
      have e9 : cntB (fun u => pasB (pS σ u) σ.1.2.2.1) (u + 1) = cntB (fun u => pasB (pS σ u) σ.1.2.2.1) u + if pasB (pS σ u) σ.1.2.2.1 then 1 else 0 := rfl
      refine sw_iload_n 153 dX12_left_152 rfl rfl rfl ?_
      refine sw_iload_n 154 dX12_left_153 rfl rfl rfl ?_
      refine sw_icmp_ge 180 157 dX12_left_154 (by decide) rfl (fun c154 => ?_) (fun c154 => ?_)
      · exact absurd c154 (by rw [zI_le (by omega) (by omega) (by omega) (by omega)]; omega)
      · refine sw_iload_n 158 dX12_left_157 rfl rfl rfl ?_
        refine sw_aload_n 159 dX12_left_158 rfl rfl rfl ?_
        refine sw_getR (b := 21) 162 dX12_left_159 rfl gf_RX12_74 (fun _ _ _ _ => rfl) ⟨by decide, rfl⟩ rfl ?_
        refine sw_iload_n 163 dX12_left_162 rfl rfl rfl ?_
        refine sw_zald 164 dX12_left_163 rfl ⟨by decide, rfl⟩ (by assumption) ?_
        rw [zI_clampN (by omega), Pu]
        refine sw_if_eq 171 167 dX12_left_164 (by decide) rfl (fun c164 => ?_) (fun c164 => ?_)
        · refine sw_iconst (v := zI 0) 172 dX12_left_171 rfl (by decide) ?_
          refine sw_iadd 173 dX12_left_172 rfl ?_
          refine sw_istore_n (lc' := [(0, _), (1, _), (2, _), (3, _)]) 174 dX12_left_173 rfl rfl (by decide) rfl ?_
          refine sw_iinc (v := zI 1) (lc' := [(0, _), (1, _), (2, _), (3, _)]) 177 dX12_left_174 rfl (by decide) rfl rfl rfl ?_
          refine sw_goto 152 dX12_left_177 (by decide) ?_
          rw [bIz_eq] at c164
          rw [e9, c164] at i9
          simp only [zI_add]
          exact i9
        · refine sw_iconst (v := zI 1) 168 dX12_left_167 rfl (by decide) ?_
          refine sw_goto 172 dX12_left_168 (by decide) ?_
          refine sw_iadd 173 dX12_left_172 rfl ?_
          refine sw_istore_n (lc' := [(0, _), (1, _), (2, _), (3, _)]) 174 dX12_left_173 rfl rfl (by decide) rfl ?_
          refine sw_iinc (v := zI 1) (lc' := [(0, _), (1, _), (2, _), (3, _)]) 177 dX12_left_174 rfl (by decide) rfl rfl rfl ?_
          refine sw_goto 152 dX12_left_177 (by decide) ?_
          rw [bIz_eq, Bool.not_eq_false] at c164
          rw [e9, if_pos c164] at i9
          simp only [zI_add]
          exact i9
  have sie : ∀ (c s : Nat) (g : sw_H), s + c = σ.1.2.2.1 → IM g σ → (∀ v, v < uS σ → g.1 21 v = bI (pasB (pS σ v) s)) → sw_wp wM X l (d + 2) mX12_left Qc 53 [(0, .ref 0), (1, .int (zI (uS σ))), (2, .int (zI s))] [] g := by
    intro c
    induction c with
    | zero =>
      intro s g hs Ig P
      have : s = σ.1.2.2.1 := by omega
      subst this
      refine sw_iload_n 54 dX12_left_53 rfl rfl rfl ?_
      refine sw_aload_n 55 dX12_left_54 rfl rfl rfl ?_
      refine sw_getI 58 dX12_left_55 rfl gf_RX12_207 rfl ⟨by decide, rfl⟩ ?_
      rw [Ig.2.2.1.1]
      refine sw_icmp_ge 148 61 dX12_left_58 (by decide) rfl (fun c58 => ?_) (fun c58 => ?_)
      · refine sw_iconst (v := zI 0) 149 dX12_left_148 rfl (by decide) ?_
        refine sw_istore_n (lc' := [(0, _), (1, _), (2, _)]) 150 dX12_left_149 rfl rfl (by decide) rfl ?_
        refine sw_iconst (v := zI 0) 151 dX12_left_150 rfl (by decide) ?_
        refine sw_istore_n (lc' := [(0, _), (1, _), (2, _), (3, _)]) 152 dX12_left_151 rfl rfl (by decide) rfl ?_
        exact cnt g Ig P (uS σ) 0 (by omega)
      · exact absurd (Int32.le_refl _) c58
    | succ c ih =>
      intro s g hs Ig P
      have hs2 : s < σ.1.2.2.1 := by omega
      have hs5 := zI_inN (a := s) (n := 5) (by omega) (by decide)
      have O := okQ_s K hs2
      have es : ∀ g : sw_H, IM g σ → g.1 5 s = zI (qS σ s : Nat) := fun g Ig => by
        rw [Ig.2.2.1.2 s hs2]
        have := (K.1.2.2.2.1 s hs2).2.1
        unfold qS
        congr 1; omega
      have go : ∀ (g : sw_H), IM g σ → (∀ v, v < uS σ → g.1 21 v = bI (pasB (pS σ v) (s + 1))) → sw_wp wM X l (d + 2) mX12_left Qc 142 [(0, .ref 0), (1, .int (zI (uS σ))), (2, .int (zI s))] [] g := by
        intro g Ig P
        refine sw_iinc (v := zI 1) (lc' := [(0, _), (1, _), (2, _)]) 145 dX12_left_142 rfl (by decide) rfl rfl rfl ?_
        refine sw_goto 53 dX12_left_145 (by decide) ?_
        rw [zI_add]
        exact ih (s + 1) g (by omega) Ig P
      refine sw_iload_n 54 dX12_left_53 rfl rfl rfl ?_
      refine sw_aload_n 55 dX12_left_54 rfl rfl rfl ?_
      refine sw_getI 58 dX12_left_55 rfl gf_RX12_207 rfl ⟨by decide, rfl⟩ ?_
      rw [Ig.2.2.1.1]
      refine sw_icmp_ge 148 61 dX12_left_58 (by decide) rfl (fun c58 => ?_) (fun c58 => ?_)
      · exact absurd c58 (by rw [zI_le (by omega) (by omega) (by omega) (by omega)]; omega)
      · refine sw_aload_n 62 dX12_left_61 rfl rfl rfl ?_
        refine sw_aload_n 63 dX12_left_62 rfl rfl rfl ?_
        refine sw_getR (b := 5) 66 dX12_left_63 rfl gf_RX12_24 (fun _ _ _ _ => rfl) ⟨by decide, rfl⟩ rfl ?_
        refine sw_iload_n 67 dX12_left_66 rfl rfl rfl ?_
        refine sw_iald 68 dX12_left_67 rfl ⟨by decide, rfl⟩ (by assumption) ?_
        rw [zI_clampN (by omega), es _ Ig]
        refine sw_invVI 71 dX12_left_68 rfl lk_RX12_213 (m_reaches Ig.1 hn O) ⟨by decide, rfl⟩ rfl rfl (Nat.le_of_ble_eq_true rfl) (fun r68 h68 hq68 => ?_)
        obtain ⟨A, rfl, M⟩ := hq68
        have I2 := IM_fr Ig A (by decide) (by decide)
        refine sw_istore_n (lc' := [(0, _), (1, _), (2, _), (3, _)]) 72 dX12_left_71 rfl rfl (by decide) rfl ?_
        refine sw_aload_n 73 dX12_left_72 rfl rfl rfl ?_
        refine sw_aload_n 74 dX12_left_73 rfl rfl rfl ?_
        refine sw_getR (b := 5) 77 dX12_left_74 rfl gf_RX12_24 (fun _ _ _ _ => rfl) ⟨by decide, rfl⟩ rfl ?_
        refine sw_iload_n 78 dX12_left_77 rfl rfl rfl ?_
        refine sw_iald 79 dX12_left_78 rfl ⟨by decide, rfl⟩ (by assumption) ?_
        rw [zI_clampN (by omega), es _ I2]
        refine sw_invVV 82 dX12_left_79 rfl lk_RX12_219 (m_layInverses I2.1 hn O) ⟨by decide, rfl⟩ rfl rfl (Nat.le_of_ble_eq_true rfl) (fun h79 hq79 => ?_)
        obtain ⟨B, D⟩ := hq79
        have I3 := IM_fr I2 B (by decide) (by decide)
        refine sw_aload_n 83 dX12_left_82 rfl rfl rfl ?_
        refine sw_invVV 86 dX12_left_83 rfl lk_RX12_170 (m_looksFirst I3.1 hn hb) ⟨by decide, rfl⟩ rfl rfl (Nat.le_of_ble_eq_true rfl) (fun h83 hq83 => ?_)
        obtain ⟨C, R, S⟩ := hq83
        have I4 := IM_fr I3 C (by decide) (by decide)
        refine sw_iconst (v := zI 0) 87 dX12_left_86 rfl (by decide) ?_
        refine sw_istore (lc' := [(0, _), (1, _), (2, _), (3, _), (4, _)]) 89 dX12_left_87 rfl (by decide) rfl ?_
        refine left_in K hs2 hU go (uS σ) 0 _ _ (by omega) I4 R S (fun i hi => ?_) (fun r hr => ?_) (fun v hv => ?_)
        · rw [C.1 20 (by decide) (by decide)]; exact D i hi
        · rw [C.1 19 (by decide) (by decide), B.1 19 (by decide) (by decide)]; exact M r hr
        · rw [if_neg (Nat.not_lt_zero v), C.1 21 (by decide) (by decide), B.1 21 (by decide) (by decide), A.1 21 (by decide) (by decide)]; exact P v hv
  have fil : ∀ (c u : Nat) (F : Nat → Int32), u + c = uS σ → (∀ v, v < u → F v = zI 1) → sw_wp wM X l (d + 2) mX12_left Qc 33 [(0, .ref 0), (1, .int (zI (uS σ))), (2, .int (zI u))] [] (sw_pI h 21 F) := by
    intro c
    induction c with
    | zero =>
      intro u F hu hF
      have : u = uS σ := by omega
      subst this
      refine sw_iload_n 34 dX12_left_33 rfl rfl rfl ?_
      refine sw_iload_n 35 dX12_left_34 rfl rfl rfl ?_
      refine sw_icmp_ge 51 38 dX12_left_35 (by decide) rfl (fun c35 => ?_) (fun c35 => ?_)
      · refine sw_iconst (v := zI 0) 52 dX12_left_51 rfl (by decide) ?_
        refine sw_istore_n (lc' := [(0, _), (1, _), (2, _)]) 53 dX12_left_52 rfl rfl (by decide) rfl ?_
        exact sie σ.1.2.2.1 0 _ (by omega) (IM_fr I (frM_pI (L := [21]) (F := []) (by decide) (by decide)) (by decide) (by decide)) (fun v hv => by rw [sw_pI_at, hF v hv]; rfl)
      · exact absurd (Int32.le_refl _) c35
    | succ c ih =>
      intro u F hu hF
      have hin := zI_inN (a := u) (n := 13122) (by omega) (by decide)
      refine sw_iload_n 34 dX12_left_33 rfl rfl rfl ?_
      refine sw_iload_n 35 dX12_left_34 rfl rfl rfl ?_
      refine sw_icmp_ge 51 38 dX12_left_35 (by decide) rfl (fun c35 => ?_) (fun c35 => ?_)
      · exact absurd c35 (by rw [zI_le (by omega) (by omega) (by omega) (by omega)]; omega)
      · refine sw_aload_n 39 dX12_left_38 rfl rfl rfl ?_
        refine sw_getR (b := 21) 42 dX12_left_39 rfl gf_RX12_74 (fun _ _ _ _ => rfl) ⟨by decide, rfl⟩ rfl ?_
        refine sw_iload_n 43 dX12_left_42 rfl rfl rfl ?_
        refine sw_iconst (v := zI 1) 44 dX12_left_43 rfl (by decide) ?_
        refine sw_zast 45 (by first | exact Or.inl rfl | exact Or.inr rfl | assumption) dX12_left_44 rfl ⟨by decide, rfl⟩ (by assumption) ?_
        refine sw_iinc (v := zI 1) (lc' := [(0, _), (1, _), (2, _)]) 48 dX12_left_45 rfl (by decide) rfl rfl rfl ?_
        refine sw_goto 33 dX12_left_48 (by decide) ?_
        rw [zI_clampN (by omega), sw_wI_pI, zI_add]
        refine ih (u + 1) _ (by omega) (fun v hv => ?_)
        unfold va_up
        by_cases ev : v = u
        · rw [if_pos ev]
        · rw [if_neg ev]; exact hF v (by omega)
  have uni : ∀ (c i : Nat), i + c = σ.1.1.1 → sw_wp wM X l (d + 2) mX12_left Qc 4 [(0, .ref 0), (1, .int (zI ((2 * rdx σ.1.1.2.2 i : Nat) : Int))), (2, .int (zI i))] [] h := by
    intro c
    induction c with
    | zero =>
      intro i hi
      have : i = σ.1.1.1 := by omega
      subst this
      refine sw_iload_n 5 dX12_left_4 rfl rfl rfl ?_
      refine sw_aload_n 6 dX12_left_5 rfl rfl rfl ?_
      refine sw_getI 9 dX12_left_6 rfl gf_RX12_83 rfl ⟨by decide, rfl⟩ ?_
      rw [I.1.1]
      refine sw_icmp_ge 31 12 dX12_left_9 (by decide) rfl (fun c9 => ?_) (fun c9 => ?_)
      · refine sw_iconst (v := zI 0) 32 dX12_left_31 rfl (by decide) ?_
        refine sw_istore_n (lc' := [(0, _), (1, _), (2, _)]) 33 dX12_left_32 rfl rfl (by decide) rfl ?_
        have g := fil (uS σ) 0 (h.1 21) (by omega) (fun v hv => absurd hv (Nat.not_lt_zero v))
        rw [sw_pI_self rfl] at g
        exact g
      · exact absurd (Int32.le_refl _) c9
    | succ c ih =>
      intro i hi
      have hin := zI_inN (a := i) (n := 5) (by omega) (by decide)
      have bi := hb i (by omega)
      have vb := (I.1.2 i (by omega)).2
      have rl := rdx_le hb i (by omega)
      have e9 : ((2 * rdx σ.1.1.2.2 i : Nat) : Int) * (2 * σ.1.1.2.2 i + 1) = ((2 * rdx σ.1.1.2.2 (i + 1) : Nat) : Int) := by
        show _ = ((2 * (rdx σ.1.1.2.2 i * dxU σ.1.1.2.2 i) : Nat) : Int)
        rw [← Nat.mul_assoc, Int.natCast_mul (2 * rdx σ.1.1.2.2 i)]
        congr 1
        unfold dxU; omega
      refine sw_iload_n 5 dX12_left_4 rfl rfl rfl ?_
      refine sw_aload_n 6 dX12_left_5 rfl rfl rfl ?_
      refine sw_getI 9 dX12_left_6 rfl gf_RX12_83 rfl ⟨by decide, rfl⟩ ?_
      rw [I.1.1]
      refine sw_icmp_ge 31 12 dX12_left_9 (by decide) rfl (fun c9 => ?_) (fun c9 => ?_)
      · exact absurd c9 (by rw [zI_le (by omega) (by omega) (by omega) (by omega)]; omega)
      · refine sw_iload_n 13 dX12_left_12 rfl rfl rfl ?_
        refine sw_iconst (v := zI 2) 14 dX12_left_13 rfl (by decide) ?_
        refine sw_aload_n 15 dX12_left_14 rfl rfl rfl ?_
        refine sw_getR (b := 2) 18 dX12_left_15 rfl gf_RX12_15 (fun _ _ _ _ => rfl) ⟨by decide, rfl⟩ rfl ?_
        refine sw_iload_n 19 dX12_left_18 rfl rfl rfl ?_
        refine sw_iald 20 dX12_left_19 rfl ⟨by decide, rfl⟩ (by assumption) ?_
        rw [zI_clampN (by omega), vb]
        refine sw_imul 21 dX12_left_20 rfl ?_
        refine sw_iconst (v := zI 1) 22 dX12_left_21 rfl (by decide) ?_
        refine sw_iadd 23 dX12_left_22 rfl ?_
        rw [zI_mul, zI_add]
        refine sw_imul 24 dX12_left_23 rfl ?_
        rw [zI_mul, e9]
        refine sw_istore_n (lc' := [(0, _), (1, _), (2, _)]) 25 dX12_left_24 rfl rfl (by decide) rfl ?_
        refine sw_iinc (v := zI 1) (lc' := [(0, _), (1, _), (2, _)]) 28 dX12_left_25 rfl (by decide) rfl rfl rfl ?_
        refine sw_goto 4 dX12_left_28 (by decide) ?_
        rw [zI_add]
        exact ih (i + 1) (by omega)
  refine sw_iconst (v := zI 2) 1 dX12_left_0 rfl (by decide) ?_
  refine sw_istore_n (lc' := [(0, _), (1, _)]) 2 dX12_left_1 rfl rfl (by decide) rfl ?_
  refine sw_iconst (v := zI 0) 3 dX12_left_2 rfl (by decide) ?_
  refine sw_istore_n (lc' := [(0, _), (1, _), (2, _)]) 4 dX12_left_3 rfl rfl (by decide) rfl ?_
  exact uni σ.1.1.1 0 (by omega)
end sw_m18
