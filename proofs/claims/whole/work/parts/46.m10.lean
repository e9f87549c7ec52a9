/-! THE REFERENCE, 10: texts read -/
/-- the place in the tape -/
def atM (h : sw_H) (P : Nat) : sw_H := sw_wI h 0 29 (zI P)
theorem atM_at {h : sw_H} {P : Nat} : (atM h P).1 0 29 = zI P := by unfold atM; rw [sw_wI_at]; simp [va_up]
theorem atM_ne {h : sw_H} {P a : Nat} (ha : a ≠ 0) : (atM h P).1 a = h.1 a := by unfold atM; rw [sw_wI_ne ha]
theorem atM_f {h : sw_H} {P : Nat} (k : Nat) (hk : k ≠ 29) : (atM h P).1 0 k = h.1 0 k := by unfold atM; rw [sw_wI_at]; simp [va_up, hk]
theorem atM_up {h : sw_H} {P Q : Nat} : sw_wI (atM h P) 0 29 (zI Q) = atM h Q := by
  unfold atM
  rw [sw_wI_p, sw_wI_p, sw_wI_p, sw_pI_at, sw_pI_pI]
  congr 1
  funext i
  by_cases e : i = 29 <;> simp [va_up, e]
theorem atM_self {h : sw_H} {P : Nat} (e : h.1 0 29 = zI P) : atM h P = h := by
  unfold atM
  rw [sw_wI_p]
  refine sw_pI_self ?_
  funext i
  by_cases c : i = 29
  · subst c; simp [va_up, e]
  · simp [va_up, c]
theorem atM_fr {h : sw_H} {P : Nat} : frM [9] [14, 29] h (atM h P) := frM_w0 (by decide)
/-- the tape: T bytes bs -/
def tpM (h : sw_H) (T : Nat) (bs : Nat → Int) : Prop := h.1 0 8 = zI T ∧ T ≤ 60 ∧ ∀ i, i < T → h.1 6 i = zI (bs i) ∧ 32 ≤ bs i ∧ bs i ≤ 126
theorem tb_lt {T P : Nat} {bs : Nat → Int} {b : Int} (h : b ≤ tbZ T bs P) (hb : 1 ≤ b) : P < T := by
  unfold tbZ at h
  split at h
  · assumption
  · omega
theorem tb_at {T P : Nat} {bs : Nat → Int} (h : P < T) : tbZ T bs P = bs P := by unfold tbZ; rw [if_pos h]
theorem tb_out {T P : Nat} {bs : Nat → Int} (h : ¬ P < T) : tbZ T bs P = 0 := by unfold tbZ; rw [if_neg h]
theorem tpM_fr {h h2 : sw_H} {T : Nat} {bs : Nat → Int} (tp : tpM h T bs) (A : frM [9] [14, 29] h h2) : tpM h2 T bs :=
  ⟨by rw [A.2.2 8 (by decide)]; exact tp.1, tp.2.1, fun i hi => by rw [A.1 6 (by decide) (by decide)]; exact tp.2.2 i hi⟩
section sw_m10
variable {X : sw_X} {l : Launch} {d : Nat} {h : sw_H} {σ : SgZ} {n T : Nat} {p bx bs : Nat → Int}
theorem m_takes (tp : tpM h T bs) {P : Nat} (hP : P ≤ T) {b : Int} (b1 : 1 ≤ b) (b2 : b ≤ 126) : sw_ct wM X l d mX12_takes [.ref 0, .int (zI b)] (atM h P) (sw_qI wM X fun r h2 => h2 = atM h (if tbZ T bs P = b then P + 1 else P) ∧ r = bI (decide (tbZ T bs P = b))) := by
  obtain ⟨t1, t2, t3⟩ := tp
  refine sw_ct_of (by decide +kernel) (Nat.le_of_ble_eq_true rfl) rfl ?_
  refine sw_aload_n 1 dX12_takes_0 rfl rfl rfl ?_
  refine sw_getI 4 dX12_takes_1 rfl gf_RX12_228 rfl ⟨by decide, rfl⟩ ?_
  rw [atM_at]
  refine sw_aload_n 5 dX12_takes_4 rfl rfl rfl ?_
  refine sw_getI 8 dX12_takes_5 rfl gf_RX12_225 rfl ⟨by decide, rfl⟩ ?_
  rw [atM_f 8 (by decide), t1]
  refine sw_icmp_eq 24 11 dX12_takes_8 (by decide) rfl (fun c8 => ?_) (fun c8 => ?_)
  · refine sw_iconst (v := zI 0) 25 dX12_takes_24 rfl (by decide) ?_
    exact sw_zret (by first | exact Or.inl rfl | exact Or.inr rfl | assumption) dX12_takes_25 rfl (by
  rw [zI_eq (by omega) (by omega) (by omega) (by omega)] at c8
  have e : ¬ tbZ T bs P = b := by rw [tb_out (by omega)]; omega
  exact ⟨by rw [if_neg e], by rw [decide_eq_false e]; rfl⟩)
  · rw [zI_eq (by omega) (by omega) (by omega) (by omega)] at c8
    have hlt : P < T := by omega
    have hv := t3 P hlt
    refine sw_aload_n 12 dX12_takes_11 rfl rfl rfl ?_
    refine sw_getR (b := 6) 15 dX12_takes_12 rfl gf_RX12_27 (fun _ _ _ _ => rfl) ⟨by decide, rfl⟩ rfl ?_
    refine sw_aload_n 16 dX12_takes_15 rfl rfl rfl ?_
    refine sw_getI 19 dX12_takes_16 rfl gf_RX12_228 rfl ⟨by decide, rfl⟩ ?_
    rw [atM_at]
    refine sw_iald 20 dX12_takes_19 rfl ⟨by decide, rfl⟩ (zI_inN (a := P) (n := 60) (by omega) (by decide)) ?_
    rw [zI_clampN (by omega), atM_ne (by decide), hv.1]
    refine sw_iload_n 21 dX12_takes_20 rfl rfl rfl ?_
    refine sw_icmp_eq 26 24 dX12_takes_21 (by decide) rfl (fun c21 => ?_) (fun c21 => ?_)
    · rw [zI_eq (by omega) (by omega) (by omega) (by omega)] at c21
      have e : tbZ T bs P = b := by rw [tb_at hlt]; exact c21
      refine sw_aload_n 27 dX12_takes_26 rfl rfl rfl ?_
      refine sw_dup 28 dX12_takes_27 rfl rfl ?_
      refine sw_getI 31 dX12_takes_28 rfl gf_RX12_228 rfl ⟨by decide, rfl⟩ ?_
      rw [atM_at]
      refine sw_iconst (v := zI 1) 32 dX12_takes_31 rfl (by decide) ?_
      refine sw_iadd 33 dX12_takes_32 rfl ?_
      rw [zI_add]
      refine sw_putI 36 dX12_takes_33 rfl pf_RX12_228 rfl ⟨by decide, rfl⟩ ?_
      refine sw_iconst (v := zI 1) 37 dX12_takes_36 rfl (by decide) ?_
      exact sw_zret (by first | exact Or.inl rfl | exact Or.inr rfl | assumption) dX12_takes_37 rfl (⟨by rw [if_pos e]; exact atM_up, by rw [decide_eq_true e]; rfl⟩)
    · refine sw_iconst (v := zI 0) 25 dX12_takes_24 rfl (by decide) ?_
      exact sw_zret (by first | exact Or.inl rfl | exact Or.inr rfl | assumption) dX12_takes_25 rfl (by
  rw [zI_eq (by omega) (by omega) (by omega) (by omega)] at c21
  have e : ¬ tbZ T bs P = b := by rw [tb_at hlt]; exact c21
  exact ⟨by rw [if_neg e], by rw [decide_eq_false e]; rfl⟩)
theorem m_isHere (tp : tpM h T bs) {P : Nat} (hP : P ≤ T) {lo hi : Int} (b1 : 1 ≤ lo) (b2 : lo ≤ 126) (b3 : 1 ≤ hi) (b4 : hi ≤ 126) : sw_ct wM X l (d + 1) mX12_isHere [.ref 0, .int (zI lo), .int (zI hi)] (atM h P) (sw_qI wM X fun r h2 => h2 = atM h P ∧ r = bI (decide (lo ≤ tbZ T bs P ∧ tbZ T bs P ≤ hi))) := by
  obtain ⟨t1, t2, t3⟩ := tp
  refine sw_ct_of (by decide +kernel) (Nat.le_of_ble_eq_true rfl) rfl ?_
  refine sw_aload_n 1 dX12_isHere_0 rfl rfl rfl ?_
  refine sw_getI 4 dX12_isHere_1 rfl gf_RX12_228 rfl ⟨by decide, rfl⟩ ?_
  rw [atM_at]
  refine sw_aload_n 5 dX12_isHere_4 rfl rfl rfl ?_
  refine sw_getI 8 dX12_isHere_5 rfl gf_RX12_225 rfl ⟨by decide, rfl⟩ ?_
  rw [atM_f 8 (by decide), t1]
  refine sw_icmp_ge 32 11 dX12_isHere_8 (by decide) rfl (fun c8 => ?_) (fun c8 => ?_)
  · refine sw_iconst (v := zI 0) 33 dX12_isHere_32 rfl (by decide) ?_
    exact sw_zret (by first | exact Or.inl rfl | exact Or.inr rfl | assumption) dX12_isHere_33 rfl (by
  rw [zI_le (by omega) (by omega) (by omega) (by omega)] at c8
  exact ⟨rfl, by rw [tb_out (bs := bs) (show ¬ P < T by omega), decide_eq_false (by omega)]; rfl⟩)
  · rw [zI_le (by omega) (by omega) (by omega) (by omega)] at c8
    have hlt : P < T := by omega
    have hv := t3 P hlt
    refine sw_aload_n 12 dX12_isHere_11 rfl rfl rfl ?_
    refine sw_getR (b := 6) 15 dX12_isHere_12 rfl gf_RX12_27 (fun _ _ _ _ => rfl) ⟨by decide, rfl⟩ rfl ?_
    refine sw_aload_n 16 dX12_isHere_15 rfl rfl rfl ?_
    refine sw_getI 19 dX12_isHere_16 rfl gf_RX12_228 rfl ⟨by decide, rfl⟩ ?_
    rw [atM_at]
    refine sw_iald 20 dX12_isHere_19 rfl ⟨by decide, rfl⟩ (zI_inN (a := P) (n := 60) (by omega) (by decide)) ?_
    rw [zI_clampN (by omega), atM_ne (by decide), hv.1]
    refine sw_iload_n 21 dX12_isHere_20 rfl rfl rfl ?_
    refine sw_iload_n 22 dX12_isHere_21 rfl rfl rfl ?_
    refine sw_invSI 25 dX12_isHere_22 rfl lk_RX12_87 (c_in (by omega) (by omega) (by omega) (by omega) (by omega) (by omega)) rfl rfl (Nat.le_of_ble_eq_true rfl) (fun r22 h22 hq22 => ?_)
    obtain ⟨rfl, rfl⟩ := hq22
    rw [← tb_at (bs := bs) hlt]
    refine sw_if_eq 32 28 dX12_isHere_25 (by decide) rfl (fun c25 => ?_) (fun c25 => ?_)
    · refine sw_iconst (v := zI 0) 33 dX12_isHere_32 rfl (by decide) ?_
      exact sw_zret (by first | exact Or.inl rfl | exact Or.inr rfl | assumption) dX12_isHere_33 rfl (by
  rw [ifz_eq] at c25
  exact ⟨rfl, by rw [decide_eq_false c25]; rfl⟩)
    · refine sw_iconst (v := zI 1) 29 dX12_isHere_28 rfl (by decide) ?_
      refine sw_goto 33 dX12_isHere_29 (by decide) ?_
      exact sw_zret (by first | exact Or.inl rfl | exact Or.inr rfl | assumption) dX12_isHere_33 rfl (by
  rw [ifz_eq, Decidable.not_not] at c25
  exact ⟨rfl, by rw [decide_eq_true c25]; rfl⟩)
theorem numZ_2 (t : Nat → Int) (P : Nat) : numZ t 2 P 0 = if figZ (t P) then (if figZ (t (P + 1)) then (10 * (10 * 0 + t P - 48) + t (P + 1) - 48, P + 1 + 1) else (10 * 0 + t P - 48, P + 1)) else (0, P) := rfl
theorem figZ_iff {b : Int} : figZ b = true ↔ 48 ≤ b ∧ b ≤ 57 := by unfold figZ; exact decide_eq_true_iff
theorem figZ_no {b : Int} : figZ b = false ↔ ¬ (48 ≤ b ∧ b ≤ 57) := by unfold figZ; exact decide_eq_false_iff_not
/-- what comes back of a factor -/
def facQ (h : sw_H) (n T : Nat) (e : Nat → Int) (z : Bool × Nat × Nat × Int) (r : Int32) (h2 : sw_H) : Prop := frM [9] [14, 29] h h2 ∧ r = bI z.1 ∧ h2.1 0 29 = zI z.2.1 ∧ z.2.1 ≤ T ∧ h2.1 0 14 = h.1 0 14 ∧ (z.1 = true → rwM h2 9 n (addE e z.2.2.1 z.2.2.2))
theorem facQ_no {h : sw_H} {n T P : Nat} {e : Nat → Int} {i : Nat} {x : Int} (hP : P ≤ T) : facQ h n T e (false, P, i, x) (zI 0) (atM h P) :=
  ⟨atM_fr, rfl, atM_at, hP, atM_f 14 (by decide), fun q => by cases q⟩
theorem m_readFactor (V : imB h n p bx) (hn : n ≤ 4) (hp : ∀ i, i < n → 2 ≤ p i ∧ p i ≤ 31) (tp : tpM h T bs) {P : Nat} (hP : P ≤ T) {e : Nat → Int} (R : rwM h 9 n e) : sw_ct wM X l (d + 2) mX12_readFactor [.ref 0] (atM h P) (sw_qI wM X (facQ h n T e (facR (tbZ T bs) p n P))) := by
  have tp0 := tp
  obtain ⟨t1, t2, t3⟩ := tp0
  have VM : ∀ P, imB (atM h P) n p bx := fun P => imB_fr V (atM_fr (P := P)) (by decide) (by decide) (by decide)
  have hb := tbZ_b (T := T) (bs := bs) (fun i hi => (t3 i hi).2)
  refine sw_ct_of (by decide +kernel) (Nat.le_of_ble_eq_true rfl) rfl ?_
  generalize hF : facR (tbZ T bs) p n P = F
  generalize hQ : sw_qI wM X (facQ h n T e F) = Qc
  -- the power is added
  have fin : ∀ (v1 : Int32) (i Q : Nat) (x : Int), i < n → Q ≤ T → F = (true, Q, i, x) → sw_wp wM X l (d + 2) mX12_readFactor Qc 151 [(0, .ref 0), (1, .int v1), (2, .int (zI i)), (3, .int (zI x))] [] (atM h Q) := by
    intro v1 i Q x hi hQT eF
    subst hQ
    subst eF
    have hin := zI_inN (a := i) (n := 4) (by omega) (by decide)
    refine sw_aload_n 152 dX12_readFactor_151 rfl rfl rfl ?_
    refine sw_getR (b := 9) 155 dX12_readFactor_152 rfl gf_RX12_37 (fun _ _ _ _ => rfl) ⟨by decide, rfl⟩ rfl ?_
    refine sw_iload_n 156 dX12_readFactor_155 rfl rfl rfl ?_
    refine sw_dup2 157 dX12_readFactor_156 rfl rfl rfl ?_
    refine sw_iald 158 dX12_readFactor_157 rfl ⟨by decide, rfl⟩ (by assumption) ?_
    refine sw_iload_n 159 dX12_readFactor_158 rfl rfl rfl ?_
    refine sw_iadd 160 dX12_readFactor_159 rfl ?_
    refine sw_iast 161 dX12_readFactor_160 rfl ⟨by decide, rfl⟩ (by assumption) ?_
    refine sw_iconst (v := zI 1) 162 dX12_readFactor_161 rfl (by decide) ?_
    exact sw_zret (by first | exact Or.inl rfl | exact Or.inr rfl | assumption) dX12_readFactor_162 rfl (by
  rw [zI_clampN (by omega), atM_ne (by decide), R i hi, zI_add]
  refine ⟨frM_tr atM_fr (frM_wI (by decide) (by decide)), rfl, by rw [sw_wI_ne (by decide)]; exact atM_at, hQT, by rw [sw_wI_ne (by decide)]; exact atM_f 14 (by decide), fun _ j hj => ?_⟩
  rw [sw_wI_at, atM_ne (by decide)]
  show va_up (h.1 9) i (zI (e i + x)) j = zI (va_up e i (e i + x) j)
  unfold va_up
  by_cases c : j = i
  · rw [if_pos c, if_pos c]
  · rw [if_neg c, if_neg c]; exact R j hj)
  -- behind the number
  have num : ∀ (v : Int) (Q : Nat), Q ≤ T → figZ (tbZ T bs P) = true → ¬ tbZ T bs P = 48 → numZ (tbZ T bs) 2 P 0 = (v, Q) → sw_wp wM X l (d + 2) mX12_readFactor Qc 75 [(0, .ref 0), (1, .int (zI v))] [] (atM h Q) := by
    intro v Q hQT f1 f2 eN
    have hv := numZ_v (tbZ T bs) hb P
    rw [eN] at hv
    have hv : -1000 ≤ v ∧ v ≤ 2000 := hv
    have fr := fndZ_in p v n 0
    have eF : F = if fndZ p v n 0 < 0 then (false, Q, 0, 0) else if tbZ T bs Q = 94 then ((powR (tbZ T bs) (Q + 1)).1, (powR (tbZ T bs) (Q + 1)).2.1, (fndZ p v n 0).toNat, (powR (tbZ T bs) (Q + 1)).2.2) else (true, Q, (fndZ p v n 0).toNat, 1) := by
      rw [← hF]
      unfold facR
      rw [if_neg (by rw [f1]; simp [f2]), eN]
    have pow : ∀ (s : Int) (P1 : Nat) (i : Nat), i < n → P1 ≤ T → ((fndZ p v n 0) = (i : Nat)) → tbZ T bs Q = 94 → s = (if tbZ T bs (Q + 1) = 45 then -1 else 1) → P1 = (if tbZ T bs (Q + 1) = 45 then Q + 1 + 1 else Q + 1) → sw_wp wM X l (d + 2) mX12_readFactor Qc 113 [(0, .ref 0), (1, .int (zI v)), (2, .int (zI i)), (3, .int (zI s))] [] (atM h P1) := by
      intro s P1 i hi hP1 ei e94 es eP
      have hs : s = -1 ∨ s = 1 := by rw [es]; split <;> simp
      have eW : powR (tbZ T bs) (Q + 1) = if 48 ≤ tbZ T bs P1 ∧ tbZ T bs P1 ≤ 54 then (true, P1 + 1, s * (tbZ T bs P1 - 48)) else (false, P1, 0) := by unfold powR; rw [es, eP]
      rw [if_neg (by omega), if_pos e94, eW, ei, Int.toNat_natCast] at eF
      refine sw_aload_n 114 dX12_readFactor_113 rfl rfl rfl ?_
      refine sw_bipush (v := zI 48) 116 dX12_readFactor_114 rfl (by decide) ?_
      refine sw_bipush (v := zI 54) 118 dX12_readFactor_116 rfl (by decide) ?_
      refine sw_invVI 121 dX12_readFactor_118 rfl lk_RX12_231 (m_isHere tp hP1 (by decide) (by decide) (by decide) (by decide)) ⟨by decide, rfl⟩ rfl rfl (Nat.le_of_ble_eq_true rfl) (fun r118 h118 hq118 => ?_)
      obtain ⟨rfl, rfl⟩ := hq118
      refine sw_if_ne 126 124 dX12_readFactor_121 (by decide) rfl (fun c121 => ?_) (fun c121 => ?_)
      · rw [bIz_eq, decide_eq_false_iff_not, Decidable.not_not] at c121
        rw [if_pos c121] at eF
        have hlt := tb_lt c121.1 (by decide)
        refine sw_iload_n 127 dX12_readFactor_126 rfl rfl rfl ?_
        refine sw_aload_n 128 dX12_readFactor_127 rfl rfl rfl ?_
        refine sw_getR (b := 6) 131 dX12_readFactor_128 rfl gf_RX12_27 (fun _ _ _ _ => rfl) ⟨by decide, rfl⟩ rfl ?_
        refine sw_aload_n 132 dX12_readFactor_131 rfl rfl rfl ?_
        refine sw_getI 135 dX12_readFactor_132 rfl gf_RX12_228 rfl ⟨by decide, rfl⟩ ?_
        rw [atM_at]
        refine sw_iald 136 dX12_readFactor_135 rfl ⟨by decide, rfl⟩ (zI_inN (a := P1) (n := 60) (by omega) (by decide)) ?_
        rw [zI_clampN (by omega), atM_ne (by decide), (t3 P1 hlt).1, ← tb_at (bs := bs) hlt]
        refine sw_bipush (v := zI 48) 138 dX12_readFactor_136 rfl (by decide) ?_
        refine sw_isub 139 dX12_readFactor_138 rfl ?_
        rw [zI_sub]
        refine sw_imul 140 dX12_readFactor_139 rfl ?_
        rw [zI_mul]
        refine sw_istore_n (lc' := [(0, _), (1, _), (2, _), (3, _)]) 141 dX12_readFactor_140 rfl rfl (by decide) rfl ?_
        refine sw_aload_n 142 dX12_readFactor_141 rfl rfl rfl ?_
        refine sw_dup 143 dX12_readFactor_142 rfl rfl ?_
        refine sw_getI 146 dX12_readFactor_143 rfl gf_RX12_228 rfl ⟨by decide, rfl⟩ ?_
        rw [atM_at]
        refine sw_iconst (v := zI 1) 147 dX12_readFactor_146 rfl (by decide) ?_
        refine sw_iadd 148 dX12_readFactor_147 rfl ?_
        rw [zI_add]
        refine sw_putI 151 dX12_readFactor_148 rfl pf_RX12_228 rfl ⟨by decide, rfl⟩ ?_
        rw [show ((P1 : Int) + 1) = ((P1 + 1 : Nat) : Int) from rfl, atM_up]
        exact fin _ i (P1 + 1) _ hi (by omega) eF
      · rw [bIz_eq, decide_eq_false_iff_not] at c121
        rw [if_neg c121] at eF
        subst hQ
        subst eF
        refine sw_iconst (v := zI 0) 125 dX12_readFactor_124 rfl (by decide) ?_
        exact sw_zret (by first | exact Or.inl rfl | exact Or.inr rfl | assumption) dX12_readFactor_125 rfl (facQ_no hP1)
    refine sw_aload_n 76 dX12_readFactor_75 rfl rfl rfl ?_
    refine sw_iload_n 77 dX12_readFactor_76 rfl rfl rfl ?_
    refine sw_invVI 80 dX12_readFactor_77 rfl lk_RX12_95 (m_placeOf (VM Q) (by omega) hp (by omega) (by omega)) ⟨by decide, rfl⟩ rfl rfl (Nat.le_of_ble_eq_true rfl) (fun r77 h77 hq77 => ?_)
    obtain ⟨rfl, rfl⟩ := hq77
    refine sw_istore_n (lc' := [(0, _), (1, _), (2, _)]) 81 dX12_readFactor_80 rfl rfl (by decide) rfl ?_
    refine sw_iload_n 82 dX12_readFactor_81 rfl rfl rfl ?_
    refine sw_if_ge 87 85 dX12_readFactor_82 (by decide) rfl (fun c82 => ?_) (fun c82 => ?_)
    · rw [z0, zI_le (by omega) (by omega) (by omega) (by omega)] at c82
      obtain ⟨i, ei⟩ := Int.eq_ofNat_of_zero_le c82
      have hi : i < n := by omega
      rw [ei]
      refine sw_iconst (v := zI 1) 88 dX12_readFactor_87 rfl (by decide) ?_
      refine sw_istore_n (lc' := [(0, _), (1, _), (2, _), (3, _)]) 89 dX12_readFactor_88 rfl rfl (by decide) rfl ?_
      refine sw_aload_n 90 dX12_readFactor_89 rfl rfl rfl ?_
      refine sw_bipush (v := zI 94) 92 dX12_readFactor_90 rfl (by decide) ?_
      refine sw_invVI 95 dX12_readFactor_92 rfl lk_RX12_235 (m_takes tp hQT (by decide) (by decide)) ⟨by decide, rfl⟩ rfl rfl (Nat.le_of_ble_eq_true rfl) (fun r92 h92 hq92 => ?_)
      obtain ⟨rfl, rfl⟩ := hq92
      refine sw_if_eq 151 98 dX12_readFactor_95 (by decide) rfl (fun c95 => ?_) (fun c95 => ?_)
      · rw [bIz_eq, decide_eq_false_iff_not] at c95
        rw [if_neg c95]
        rw [if_neg (by omega), if_neg c95, ei, Int.toNat_natCast] at eF
        exact fin _ i Q 1 hi hQT eF
      · rw [bIz_eq, decide_eq_false_iff_not, Decidable.not_not] at c95
        have hlt := tb_lt (show (94 : Int) ≤ _ from Int.le_of_eq c95.symm) (by decide)
        rw [if_pos c95]
        refine sw_aload_n 99 dX12_readFactor_98 rfl rfl rfl ?_
        refine sw_bipush (v := zI 45) 101 dX12_readFactor_99 rfl (by decide) ?_
        refine sw_invVI 104 dX12_readFactor_101 rfl lk_RX12_235 (m_takes (P := Q + 1) tp (by omega) (by decide) (by decide)) ⟨by decide, rfl⟩ rfl rfl (Nat.le_of_ble_eq_true rfl) (fun r101 h101 hq101 => ?_)
        obtain ⟨rfl, rfl⟩ := hq101
        refine sw_if_eq 111 107 dX12_readFactor_104 (by decide) rfl (fun c104 => ?_) (fun c104 => ?_)
        · refine sw_iconst (v := zI 1) 112 dX12_readFactor_111 rfl (by decide) ?_
          refine sw_istore_n (lc' := [(0, _), (1, _), (2, _), (3, _)]) 113 dX12_readFactor_112 rfl rfl (by decide) rfl ?_
          rw [bIz_eq, decide_eq_false_iff_not] at c104
          exact pow 1 _ i hi (by rw [if_neg c104]; omega) ei c95 (by rw [if_neg c104]) rfl
        · refine sw_iconst (v := zI (-1)) 108 dX12_readFactor_107 rfl (by decide) ?_
          refine sw_goto 112 dX12_readFactor_108 (by decide) ?_
          refine sw_istore_n (lc' := [(0, _), (1, _), (2, _), (3, _)]) 113 dX12_readFactor_112 rfl rfl (by decide) rfl ?_
          rw [bIz_eq, decide_eq_false_iff_not, Decidable.not_not] at c104
          have hlt2 := tb_lt (show (45 : Int) ≤ _ from Int.le_of_eq c104.symm) (by decide)
          exact pow (-1) _ i hi (by rw [if_pos c104]; omega) ei c95 (by rw [if_pos c104]) rfl
    · rw [z0, zI_le (by omega) (by omega) (by omega) (by omega)] at c82
      rw [if_pos (by omega)] at eF
      subst hQ
      subst eF
      refine sw_iconst (v := zI 0) 86 dX12_readFactor_85 rfl (by decide) ?_
      exact sw_zret (by first | exact Or.inl rfl | exact Or.inr rfl | assumption) dX12_readFactor_86 rfl (facQ_no hQT)
  refine sw_aload_n 1 dX12_readFactor_0 rfl rfl rfl ?_
  refine sw_bipush (v := zI 49) 3 dX12_readFactor_1 rfl (by decide) ?_
  refine sw_bipush (v := zI 57) 5 dX12_readFactor_3 rfl (by decide) ?_
  refine sw_invVI 8 dX12_readFactor_5 rfl lk_RX12_231 (m_isHere tp hP (by decide) (by decide) (by decide) (by decide)) ⟨by decide, rfl⟩ rfl rfl (Nat.le_of_ble_eq_true rfl) (fun r5 h5 hq5 => ?_)
  obtain ⟨rfl, rfl⟩ := hq5
  refine sw_if_ne 13 11 dX12_readFactor_8 (by decide) rfl (fun c8 => ?_) (fun c8 => ?_)
  · rw [bIz_eq, decide_eq_false_iff_not, Decidable.not_not] at c8
    have hlt := tb_lt c8.1 (by decide)
    have f1 : figZ (tbZ T bs P) = true := figZ_iff.mpr (by omega)
    have eN := numZ_2 (tbZ T bs) P
    rw [if_pos f1] at eN
    refine sw_aload_n 14 dX12_readFactor_13 rfl rfl rfl ?_
    refine sw_getR (b := 6) 17 dX12_readFactor_14 rfl gf_RX12_27 (fun _ _ _ _ => rfl) ⟨by decide, rfl⟩ rfl ?_
    refine sw_aload_n 18 dX12_readFactor_17 rfl rfl rfl ?_
    refine sw_getI 21 dX12_readFactor_18 rfl gf_RX12_228 rfl ⟨by decide, rfl⟩ ?_
    rw [atM_at]
    refine sw_iald 22 dX12_readFactor_21 rfl ⟨by decide, rfl⟩ (zI_inN (a := P) (n := 60) (by omega) (by decide)) ?_
    rw [zI_clampN (by omega), atM_ne (by decide), (t3 P hlt).1, ← tb_at (bs := bs) hlt]
    refine sw_bipush (v := zI 48) 24 dX12_readFactor_22 rfl (by decide) ?_
    refine sw_isub 25 dX12_readFactor_24 rfl ?_
    rw [zI_sub]
    refine sw_istore_n (lc' := [(0, _), (1, _)]) 26 dX12_readFactor_25 rfl rfl (by decide) rfl ?_
    refine sw_aload_n 27 dX12_readFactor_26 rfl rfl rfl ?_
    refine sw_dup 28 dX12_readFactor_27 rfl rfl ?_
    refine sw_getI 31 dX12_readFactor_28 rfl gf_RX12_228 rfl ⟨by decide, rfl⟩ ?_
    rw [atM_at]
    refine sw_iconst (v := zI 1) 32 dX12_readFactor_31 rfl (by decide) ?_
    refine sw_iadd 33 dX12_readFactor_32 rfl ?_
    rw [zI_add]
    refine sw_putI 36 dX12_readFactor_33 rfl pf_RX12_228 rfl ⟨by decide, rfl⟩ ?_
    rw [show ((P : Int) + 1) = ((P + 1 : Nat) : Int) from rfl, atM_up]
    refine sw_aload_n 37 dX12_readFactor_36 rfl rfl rfl ?_
    refine sw_bipush (v := zI 48) 39 dX12_readFactor_37 rfl (by decide) ?_
    refine sw_bipush (v := zI 57) 41 dX12_readFactor_39 rfl (by decide) ?_
    refine sw_invVI 44 dX12_readFactor_41 rfl lk_RX12_231 (m_isHere (P := P + 1) tp (by omega) (by decide) (by decide) (by decide) (by decide)) ⟨by decide, rfl⟩ rfl rfl (Nat.le_of_ble_eq_true rfl) (fun r41 h41 hq41 => ?_)
    obtain ⟨rfl, rfl⟩ := hq41
    refine sw_if_eq 75 47 dX12_readFactor_44 (by decide) rfl (fun c44 => ?_) (fun c44 => ?_)
    · rw [bIz_eq, decide_eq_false_iff_not] at c44
      rw [if_neg (by rw [figZ_no.mpr c44]; decide)] at eN
      exact num _ (P + 1) (by omega) f1 (by omega) (by rw [eN]; congr 1; omega)
    · rw [bIz_eq, decide_eq_false_iff_not, Decidable.not_not] at c44
      have hlt2 := tb_lt c44.1 (by decide)
      rw [if_pos (figZ_iff.mpr c44)] at eN
      refine sw_bipush (v := zI 10) 49 dX12_readFactor_47 rfl (by decide) ?_
      refine sw_iload_n 50 dX12_readFactor_49 rfl rfl rfl ?_
      refine sw_imul 51 dX12_readFactor_50 rfl ?_
      rw [zI_mul]
      refine sw_aload_n 52 dX12_readFactor_51 rfl rfl rfl ?_
      refine sw_getR (b := 6) 55 dX12_readFactor_52 rfl gf_RX12_27 (fun _ _ _ _ => rfl) ⟨by decide, rfl⟩ rfl ?_
      refine sw_aload_n 56 dX12_readFactor_55 rfl rfl rfl ?_
      refine sw_getI 59 dX12_readFactor_56 rfl gf_RX12_228 rfl ⟨by decide, rfl⟩ ?_
      rw [atM_at]
      refine sw_iald 60 dX12_readFactor_59 rfl ⟨by decide, rfl⟩ (zI_inN (a := P + 1) (n := 60) (by omega) (by decide)) ?_
      rw [zI_clampN (by omega), atM_ne (by decide), (t3 (P + 1) hlt2).1, ← tb_at (bs := bs) hlt2]
      refine sw_iadd 61 dX12_readFactor_60 rfl ?_
      rw [zI_add]
      refine sw_bipush (v := zI 48) 63 dX12_readFactor_61 rfl (by decide) ?_
      refine sw_isub 64 dX12_readFactor_63 rfl ?_
      rw [zI_sub]
      refine sw_istore_n (lc' := [(0, _), (1, _)]) 65 dX12_readFactor_64 rfl rfl (by decide) rfl ?_
      refine sw_aload_n 66 dX12_readFactor_65 rfl rfl rfl ?_
      refine sw_dup 67 dX12_readFactor_66 rfl rfl ?_
      refine sw_getI 70 dX12_readFactor_67 rfl gf_RX12_228 rfl ⟨by decide, rfl⟩ ?_
      rw [atM_at]
      refine sw_iconst (v := zI 1) 71 dX12_readFactor_70 rfl (by decide) ?_
      refine sw_iadd 72 dX12_readFactor_71 rfl ?_
      rw [zI_add]
      refine sw_putI 75 dX12_readFactor_72 rfl pf_RX12_228 rfl ⟨by decide, rfl⟩ ?_
      rw [show (((P + 1 : Nat) : Int) + 1) = ((P + 1 + 1 : Nat) : Int) from rfl, atM_up]
      exact num _ (P + 1 + 1) (by omega) f1 (by omega) (by rw [eN]; congr 1; omega)
  · rw [bIz_eq, decide_eq_false_iff_not] at c8
    have eF : F = (false, P, 0, 0) := by
      rw [← hF]; unfold facR; rw [if_pos (by rw [figZ_no]; omega)]
    subst hQ
    subst eF
    refine sw_iconst (v := zI 0) 12 dX12_readFactor_11 rfl (by decide) ?_
    exact sw_zret (by first | exact Or.inl rfl | exact Or.inr rfl | assumption) dX12_readFactor_12 rfl (facQ_no hP)
theorem starR_no {t p : Nat → Int} {n c P : Nat} {e : Nat → Int} (h : ¬ t P = 42) : starR t p n c P e = (true, P, e) := by
  cases c with
  | zero => rfl
  | succ c => unfold starR; rw [if_neg h]
def finR (T : Nat) (z : Bool × Nat × (Nat → Int)) : Bool × Nat × (Nat → Int) := (z.1 && decide (z.2.1 = T), z.2.1, z.2.2)
/-- what comes back of a text -/
def untQ (h : sw_H) (n : Nat) (sx : Int) (z : Bool × Nat × (Nat → Int)) (r : Int32) (h2 : sw_H) : Prop := frM [9] [14, 29] h h2 ∧ r = bI z.1 ∧ h2.1 0 29 = zI z.2.1 ∧ h2.1 0 14 = zI sx ∧ (z.1 = true → rwM h2 9 n z.2.2)
theorem m_readUnit (V : imB h n p bx) (hn : n ≤ 4) (hp : ∀ i, i < n → 2 ≤ p i ∧ p i ≤ 31) (tp : tpM h T bs) : sw_ct wM X l (d + 3) mX12_readUnit [.ref 0] h (sw_qI wM X (untQ h n (rdS (tbZ T bs)) (bodyR (tbZ T bs) p n T 60 (rdP (tbZ T bs))))) := by
  have hT := tp.2.1
  have t3 := tp.2.2
  refine sw_ct_of (by decide +kernel) (Nat.le_of_ble_eq_true rfl) rfl ?_
  generalize hB : bodyR (tbZ T bs) p n T 60 (rdP (tbZ T bs)) = B
  generalize hQ : sw_qI wM X (untQ h n (rdS (tbZ T bs)) B) = Qc
  have loop : ∀ (c P : Nat) (e : Nat → Int) (g : sw_H), frM [9] [14, 29] h g → g.1 0 29 = zI P → g.1 0 14 = zI (rdS (tbZ T bs)) → rwM g 9 n e → P ≤ T → 60 ≤ c + P → ((facR (tbZ T bs) p n P).1 = false → B.1 = false ∧ B.2.1 = (facR (tbZ T bs) p n P).2.1) → ((facR (tbZ T bs) p n P).1 = true → B = finR T (starR (tbZ T bs) p n c (facR (tbZ T bs) p n P).2.1 (addE e (facR (tbZ T bs) p n P).2.2.1 (facR (tbZ T bs) p n P).2.2.2))) → sw_wp wM X l (d + 3) mX12_readUnit Qc 85 [(0, .ref 0)] [] g := by
    intro c
    induction c using Nat.strongRecOn with
    | ind c ih =>
      intro P e g A g1 g2 R hP hc B1 B2
      rw [← atM_self g1]
      have fb := facR_b (tbZ T bs) p n P
      have mF := m_readFactor (X := X) (l := l) (d := d) (imB_fr V A (by decide) (by decide) (by decide)) hn hp (tpM_fr tp A) hP R
      generalize facR (tbZ T bs) p n P = F at B1 B2 fb mF
      refine sw_aload_n 86 dX12_readUnit_85 rfl rfl rfl ?_
      refine sw_invVI 89 dX12_readUnit_86 rfl lk_RX12_238 (mF) ⟨by decide, rfl⟩ rfl rfl (Nat.le_of_ble_eq_true rfl) (fun r86 h86 hq86 => ?_)
      obtain ⟨A1, rfl, f1, f2, f3, f4⟩ := hq86
      refine sw_if_ne 94 92 dX12_readUnit_89 (by decide) rfl (fun c89 => ?_) (fun c89 => ?_)
      · rw [bIz_eq, Bool.not_eq_false] at c89
        have B3 := B2 c89
        have R1 := f4 c89
        rw [← atM_self f1]
        refine sw_aload_n 95 dX12_readUnit_94 rfl rfl rfl ?_
        refine sw_bipush (v := zI 42) 97 dX12_readUnit_95 rfl (by decide) ?_
        refine sw_invVI 100 dX12_readUnit_97 rfl lk_RX12_235 (m_takes (tpM_fr tp (frM_tr A A1)) f2 (by decide) (by decide)) ⟨by decide, rfl⟩ rfl rfl (Nat.le_of_ble_eq_true rfl) (fun r97 h97 hq97 => ?_)
        obtain ⟨rfl, rfl⟩ := hq97
        refine sw_if_ne 85 103 dX12_readUnit_100 (by decide) rfl (fun c100 => ?_) (fun c100 => ?_)
        · rw [bIz_eq, decide_eq_false_iff_not, Decidable.not_not] at c100
          have hlt := tb_lt (show (42 : Int) ≤ _ from Int.le_of_eq c100.symm) (by decide)
          obtain ⟨c', rfl⟩ : ∃ c', c = c' + 1 := ⟨c - 1, by omega⟩
          rw [if_pos c100]
          have es : starR (tbZ T bs) p n (c' + 1) F.2.1 (addE e F.2.2.1 F.2.2.2) = (if (facR (tbZ T bs) p n (F.2.1 + 1)).1 then starR (tbZ T bs) p n c' (facR (tbZ T bs) p n (F.2.1 + 1)).2.1 (addE (addE e F.2.2.1 F.2.2.2) (facR (tbZ T bs) p n (F.2.1 + 1)).2.2.1 (facR (tbZ T bs) p n (F.2.1 + 1)).2.2.2) else (false, (facR (tbZ T bs) p n (F.2.1 + 1)).2.1, addE e F.2.2.1 F.2.2.2)) := by
            show (if tbZ T bs F.2.1 = 42 then _ else _) = _
            rw [if_pos c100]
          rw [es] at B3
          refine ih c' (by omega) (F.2.1 + 1) (addE e F.2.2.1 F.2.2.2) _ (frM_tr (frM_tr A A1) atM_fr) atM_at (by rw [atM_f 14 (by decide), f3]; exact g2) (fun i hi => by rw [atM_ne (by decide)]; exact R1 i hi) (by omega) (by omega) (fun q => ?_) (fun q => ?_)
          · rw [if_neg (by rw [q]; decide)] at B3
            rw [B3]; exact ⟨rfl, rfl⟩
          · rw [if_pos q] at B3; exact B3
        · rw [bIz_eq, decide_eq_false_iff_not] at c100
          rw [if_neg c100, atM_self f1]
          rw [starR_no c100] at B3
          subst hQ
          refine sw_aload_n 104 dX12_readUnit_103 rfl rfl rfl ?_
          refine sw_getI 107 dX12_readUnit_104 rfl gf_RX12_228 rfl ⟨by decide, rfl⟩ ?_
          rw [f1]
          refine sw_aload_n 108 dX12_readUnit_107 rfl rfl rfl ?_
          refine sw_getI 111 dX12_readUnit_108 rfl gf_RX12_225 rfl ⟨by decide, rfl⟩ ?_
          rw [(frM_tr A A1).2.2 8 (by decide), tp.1]
          refine sw_icmp_ne 118 114 dX12_readUnit_111 (by decide) rfl (fun c111 => ?_) (fun c111 => ?_)
          · refine sw_iconst (v := zI 0) 119 dX12_readUnit_118 rfl (by decide) ?_
            exact sw_zret (by first | exact Or.inl rfl | exact Or.inr rfl | assumption) dX12_readUnit_119 rfl (by
  rw [zI_eq (by omega) (by omega) (by omega) (by omega)] at c111
  rw [B3]
  refine ⟨frM_tr A A1, ?_, f1, by rw [f3]; exact g2, fun _ => R1⟩
  show zI 0 = bI (true && decide (F.2.1 = T))
  rw [decide_eq_false (by omega)]; rfl)
          · refine sw_iconst (v := zI 1) 115 dX12_readUnit_114 rfl (by decide) ?_
            refine sw_goto 119 dX12_readUnit_115 (by decide) ?_
            exact sw_zret (by first | exact Or.inl rfl | exact Or.inr rfl | assumption) dX12_readUnit_119 rfl (by
  rw [zI_eq (by omega) (by omega) (by omega) (by omega)] at c111
  rw [B3]
  refine ⟨frM_tr A A1, ?_, f1, by rw [f3]; exact g2, fun _ => R1⟩
  show zI 1 = bI (true && decide (F.2.1 = T))
  rw [decide_eq_true (by omega)]; rfl)
      · rw [bIz_eq] at c89
        subst hQ
        refine sw_iconst (v := zI 0) 93 dX12_readUnit_92 rfl (by decide) ?_
        exact sw_zret (by first | exact Or.inl rfl | exact Or.inr rfl | assumption) dX12_readUnit_93 rfl (⟨frM_tr A A1, by rw [(B1 c89).1]; rfl, by rw [(B1 c89).2]; exact f1, by rw [f3]; exact g2, fun q => by rw [(B1 c89).1] at q; cases q⟩)
  -- behind the sign
  have body : ∀ (P : Nat) (g : sw_H), P = rdP (tbZ T bs) → P ≤ T → P ≤ 1 → frM [9] [14, 29] h g → g.1 0 29 = zI P → g.1 0 14 = zI (rdS (tbZ T bs)) → rwM g 9 n (fun _ => 0) → sw_wp wM X l (d + 3) mX12_readUnit Qc 46 [(0, .ref 0)] [] g := by
    intro P g eP hP hP1 A g1 g2 R
    rw [← eP] at hB
    have hB2 : ¬ (tbZ T bs P = 49 ∧ figZ (tbZ T bs (P + 1)) = false) → sw_wp wM X l (d + 3) mX12_readUnit Qc 85 [(0, .ref 0)] [] g := by
      intro no
      unfold bodyR at hB
      rw [if_neg no] at hB
      refine loop 60 P (fun _ => 0) g A g1 g2 R hP (by omega) (fun q => ?_) (fun q => ?_)
      · rw [if_neg (by rw [q]; decide)] at hB; rw [← hB]; exact ⟨rfl, rfl⟩
      · rw [if_pos q] at hB; rw [← hB]; rfl
    have hB3 : tbZ T bs P = 49 → figZ (tbZ T bs (P + 1)) = false → ¬ P + 1 = T → sw_wp wM X l (d + 3) mX12_readUnit Qc 85 [(0, .ref 0)] [] g := by
      intro h49 hf hne
      have f0 : facR (tbZ T bs) p n P = (false, P + 1, 0, 0) := by
        unfold facR
        have eN := numZ_2 (tbZ T bs) P
        rw [if_pos (figZ_iff.mpr (by omega)), if_neg (by rw [hf]; decide), h49] at eN
        have e1 : fndZ p 1 n 0 = -1 := (fndZ_none n 0).mpr (fun j _ hj => by have := hp j (by omega); omega)
        rw [if_neg (by rw [figZ_iff.mpr (by omega)]; simp [h49]), eN]
        show (if fndZ p (10 * 0 + 49 - 48) n 0 < 0 then _ else _) = _
        rw [show (10 * 0 + 49 - 48 : Int) = 1 from rfl, e1]; rfl
      unfold bodyR at hB
      rw [if_pos ⟨h49, hf⟩, decide_eq_false hne] at hB
      refine loop 60 P (fun _ => 0) g A g1 g2 R hP (by omega) (fun q => ?_) (fun q => ?_)
      · rw [f0, ← hB]; exact ⟨rfl, rfl⟩
      · rw [f0] at q; cases q
    have cont : ¬ (P + 1 = T ∧ tbZ T bs P = 49) → sw_wp wM X l (d + 3) mX12_readUnit Qc 85 [(0, .ref 0)] [] g := by
      intro no
      by_cases c : tbZ T bs P = 49 ∧ figZ (tbZ T bs (P + 1)) = false
      · exact hB3 c.1 c.2 (fun q => no ⟨q, c.1⟩)
      · exact hB2 c
    refine sw_aload_n 47 dX12_readUnit_46 rfl rfl rfl ?_
    refine sw_getI 50 dX12_readUnit_47 rfl gf_RX12_228 rfl ⟨by decide, rfl⟩ ?_
    rw [g1]
    refine sw_aload_n 51 dX12_readUnit_50 rfl rfl rfl ?_
    refine sw_getI 54 dX12_readUnit_51 rfl gf_RX12_225 rfl ⟨by decide, rfl⟩ ?_
    rw [A.2.2 8 (by decide), tp.1]
    refine sw_iconst (v := zI 1) 55 dX12_readUnit_54 rfl (by decide) ?_
    refine sw_isub 56 dX12_readUnit_55 rfl ?_
    rw [zI_sub]
    refine sw_icmp_ne 85 59 dX12_readUnit_56 (by decide) rfl (fun c56 => ?_) (fun c56 => ?_)
    · rw [zI_eq (by omega) (by omega) (by omega) (by omega)] at c56
      exact cont (fun q => c56 (by omega))
    · rw [zI_eq (by omega) (by omega) (by omega) (by omega)] at c56
      have hlt : P < T := by omega
      refine sw_aload_n 60 dX12_readUnit_59 rfl rfl rfl ?_
      refine sw_getR (b := 6) 63 dX12_readUnit_60 rfl gf_RX12_27 (fun _ _ _ _ => rfl) ⟨by decide, rfl⟩ rfl ?_
      refine sw_aload_n 64 dX12_readUnit_63 rfl rfl rfl ?_
      refine sw_getI 67 dX12_readUnit_64 rfl gf_RX12_228 rfl ⟨by decide, rfl⟩ ?_
      rw [g1]
      refine sw_iald 68 dX12_readUnit_67 rfl ⟨by decide, rfl⟩ (zI_inN (a := P) (n := 60) (by omega) (by decide)) ?_
      rw [zI_clampN (by omega), A.1 6 (by decide) (by decide), (t3 P hlt).1, ← tb_at (bs := bs) hlt]
      have tb := t3 P hlt
      have tb2 := tb_at (bs := bs) hlt
      refine sw_bipush (v := zI 49) 70 dX12_readUnit_68 rfl (by decide) ?_
      refine sw_icmp_ne 85 73 dX12_readUnit_70 (by decide) rfl (fun c70 => ?_) (fun c70 => ?_)
      · rw [zI_eq (by omega) (by omega) (by omega) (by omega)] at c70
        exact cont (fun q => c70 q.2)
      · rw [zI_eq (by omega) (by omega) (by omega) (by omega)] at c70
        unfold bodyR at hB
        rw [if_pos ⟨c70, by rw [tb_out (bs := bs) (show ¬ P + 1 < T by omega)]; rfl⟩, decide_eq_true (by omega)] at hB
        subst hQ
        refine sw_aload_n 74 dX12_readUnit_73 rfl rfl rfl ?_
        refine sw_dup 75 dX12_readUnit_74 rfl rfl ?_
        refine sw_getI 78 dX12_readUnit_75 rfl gf_RX12_228 rfl ⟨by decide, rfl⟩ ?_
        rw [g1]
        refine sw_iconst (v := zI 1) 79 dX12_readUnit_78 rfl (by decide) ?_
        refine sw_iadd 80 dX12_readUnit_79 rfl ?_
        rw [zI_add]
        refine sw_putI 83 dX12_readUnit_80 rfl pf_RX12_228 rfl ⟨by decide, rfl⟩ ?_
        refine sw_iconst (v := zI 1) 84 dX12_readUnit_83 rfl (by decide) ?_
        exact sw_zret (by first | exact Or.inl rfl | exact Or.inr rfl | assumption) dX12_readUnit_84 rfl (by
  rw [← hB]
  exact ⟨frM_tr A (frM_w0 (by decide)), rfl, by rw [sw_wI_at]; simp [va_up], by rw [sw_wI_at]; simp only [va_up]; rw [if_neg (by decide)]; exact g2, fun _ i hi => by rw [sw_wI_ne (by decide)]; exact R i hi⟩)
  have zero : ∀ (c j : Nat) (g : sw_H), j + c = n → frM [9] [14, 29] h g → g.1 0 29 = zI 0 → (∀ i, i < j → g.1 9 i = zI 0) → sw_wp wM X l (d + 3) mX12_readUnit Qc 7 [(0, .ref 0), (1, .int (zI j))] [] g := by
    intro c
    induction c with
    | zero =>
      intro j g hj A g1 g9
      have : j = n := by omega
      subst this
      have e0 : g.1 0 0 = zI j := by rw [A.2.2 0 (by decide)]; exact V.1
      have g1' : g.1 0 29 = zI ((0 : Nat) : Int) := g1
      rw [← atM_self g1']
      have e00 : (atM g 0).1 0 0 = zI j := by rw [atM_f 0 (by decide)]; exact e0
      refine sw_iload_n 8 dX12_readUnit_7 rfl rfl rfl ?_
      refine sw_aload_n 9 dX12_readUnit_8 rfl rfl rfl ?_
      refine sw_getI 12 dX12_readUnit_9 rfl gf_RX12_83 rfl ⟨by decide, rfl⟩ ?_
      rw [e00]
      refine sw_icmp_ge 28 15 dX12_readUnit_12 (by decide) rfl (fun c12 => ?_) (fun c12 => ?_)
      · refine sw_aload_n 29 dX12_readUnit_28 rfl rfl rfl ?_
        refine sw_aload_n 30 dX12_readUnit_29 rfl rfl rfl ?_
        refine sw_bipush (v := zI 45) 32 dX12_readUnit_30 rfl (by decide) ?_
        refine sw_invVI 35 dX12_readUnit_32 rfl lk_RX12_235 (m_takes (P := 0) (tpM_fr tp A) (by omega) (by decide) (by decide)) ⟨by decide, rfl⟩ rfl rfl (Nat.le_of_ble_eq_true rfl) (fun r32 h32 hq32 => ?_)
        obtain ⟨rfl, rfl⟩ := hq32
        refine sw_if_eq 42 38 dX12_readUnit_35 (by decide) rfl (fun c35 => ?_) (fun c35 => ?_)
        · refine sw_iconst (v := zI 1) 43 dX12_readUnit_42 rfl (by decide) ?_
          refine sw_putI 46 dX12_readUnit_43 rfl pf_RX12_109 rfl ⟨by decide, rfl⟩ ?_
          rw [bIz_eq, decide_eq_false_iff_not] at c35
          rw [if_neg c35]
          refine sw_wp_sub (by simp) (body 0 _ (by unfold rdP; rw [if_neg c35]) (by omega) (by omega) (frM_tr (frM_tr A atM_fr) (frM_w0 (by decide))) (by rw [sw_wI_at]; simp only [va_up]; rw [if_neg (by decide)]; exact atM_at) (by rw [sw_wI_at]; unfold rdS; rw [if_neg c35]; simp [va_up]) (fun i hi => by rw [sw_wI_ne (by decide), atM_ne (by decide)]; exact g9 i hi))
        · refine sw_iconst (v := zI (-1)) 39 dX12_readUnit_38 rfl (by decide) ?_
          refine sw_goto 43 dX12_readUnit_39 (by decide) ?_
          refine sw_putI 46 dX12_readUnit_43 rfl pf_RX12_109 rfl ⟨by decide, rfl⟩ ?_
          rw [bIz_eq, decide_eq_false_iff_not, Decidable.not_not] at c35
          have hlt := tb_lt (show (45 : Int) ≤ _ from Int.le_of_eq c35.symm) (by decide)
          rw [if_pos c35]
          refine sw_wp_sub (by simp) (body 1 _ (by unfold rdP; rw [if_pos c35]) (by omega) (by omega) (frM_tr (frM_tr A atM_fr) (frM_w0 (by decide))) (by rw [sw_wI_at]; simp only [va_up]; rw [if_neg (by decide)]; exact atM_at) (by rw [sw_wI_at]; unfold rdS; rw [if_pos c35]; simp [va_up]) (fun i hi => by rw [sw_wI_ne (by decide), atM_ne (by decide)]; exact g9 i hi))
      · exact absurd (Int32.le_refl _) c12
    | succ c ih =>
      intro j g hj A g1 g9
      have e0 : g.1 0 0 = zI n := by rw [A.2.2 0 (by decide)]; exact V.1
      have hin := zI_inN (a := j) (n := 4) (by omega) (by decide)
      refine sw_iload_n 8 dX12_readUnit_7 rfl rfl rfl ?_
      refine sw_aload_n 9 dX12_readUnit_8 rfl rfl rfl ?_
      refine sw_getI 12 dX12_readUnit_9 rfl gf_RX12_83 rfl ⟨by decide, rfl⟩ ?_
      rw [e0]
      refine sw_icmp_ge 28 15 dX12_readUnit_12 (by decide) rfl (fun c12 => ?_) (fun c12 => ?_)
      · exact absurd c12 (by rw [zI_le (by omega) (by omega) (by omega) (by omega)]; omega)
      · refine sw_aload_n 16 dX12_readUnit_15 rfl rfl rfl ?_
        refine sw_getR (b := 9) 19 dX12_readUnit_16 rfl gf_RX12_37 (fun _ _ _ _ => rfl) ⟨by decide, rfl⟩ rfl ?_
        refine sw_iload_n 20 dX12_readUnit_19 rfl rfl rfl ?_
        refine sw_iconst (v := zI 0) 21 dX12_readUnit_20 rfl (by decide) ?_
        refine sw_iast 22 dX12_readUnit_21 rfl ⟨by decide, rfl⟩ (by assumption) ?_
        refine sw_iinc (v := zI 1) (lc' := [(0, _), (1, _)]) 25 dX12_readUnit_22 rfl (by decide) rfl rfl rfl ?_
        refine sw_goto 7 dX12_readUnit_25 (by decide) ?_
        rw [zI_clampN (by omega), zI_add]
        refine ih (j + 1) _ (by omega) (frM_tr A (frM_wI (by decide) (by decide))) (by rw [sw_wI_ne (by decide)]; exact g1) (fun i hi => ?_)
        rw [sw_wI_at]
        unfold va_up
        by_cases c : i = j
        · rw [if_pos c]
        · rw [if_neg c]; exact g9 i (by omega)
  refine sw_aload_n 1 dX12_readUnit_0 rfl rfl rfl ?_
  refine sw_iconst (v := zI 0) 2 dX12_readUnit_1 rfl (by decide) ?_
  refine sw_putI 5 dX12_readUnit_2 rfl pf_RX12_228 rfl ⟨by decide, rfl⟩ ?_
  refine sw_iconst (v := zI 0) 6 dX12_readUnit_5 rfl (by decide) ?_
  refine sw_istore_n (lc' := [(0, _), (1, _)]) 7 dX12_readUnit_6 rfl rfl (by decide) rfl ?_
  exact zero n 0 _ (by omega) (frM_w0 (by decide)) (by rw [sw_wI_at]; simp [va_up]) (fun i hi => absurd hi (Nat.not_lt_zero i))
theorem m_read (K : okS σ) (I : IM h σ) {s : Int} (s1 : -2147483648 ≤ s) (s2 : s < 2147483648) : sw_ct wM X l (d + 4) mX12_read [.ref 0, .int (zI s)] h (sw_qI wM X fun r h2 => IM h2 (opRead σ s).2 ∧ r = zI (opRead σ s).1) := by
  have hn := K.1.1.1
  have hp : ∀ i, i < σ.1.1.1 → 2 ≤ σ.1.1.2.1 i ∧ σ.1.1.2.1 i ≤ 31 := fun i hi => kB_2 K hi
  have tp : tpM h σ.2.2.1.1 σ.2.2.1.2 := ⟨I.2.2.2.2.1.1, K.2.2.1.1, fun i hi => ⟨I.2.2.2.2.1.2 i hi, K.2.2.1.2 i hi⟩⟩
  have bb : ∀ i, -1000 ≤ (rdB σ).2.2 i ∧ (rdB σ).2.2 i ≤ 1000 := bodyR_b (tpS σ) σ.1.1.2.1 σ.1.1.1 σ.2.2.1.1 (rdP (tpS σ))
  have bz : ∀ i, σ.1.1.1 ≤ i → (rdB σ).2.2 i = 0 := bodyR_zero (tpS σ) σ.1.1.2.1 σ.1.1.1 σ.2.2.1.1 60 (rdP (tpS σ))
  refine sw_ct_of (by decide +kernel) (Nat.le_of_ble_eq_true rfl) rfl ?_
  refine sw_iload_n 1 dX12_read_0 rfl rfl rfl ?_
  refine sw_invSI 4 dX12_read_1 rfl lk_RX12_132 (m_isShelf s1 s2) rfl rfl (Nat.le_of_ble_eq_true rfl) (fun r1 h1 hq1 => ?_)
  obtain ⟨rfl, rfl⟩ := hq1
  refine sw_if_ne 9 7 dX12_read_4 (by decide) rfl (fun c4 => ?_) (fun c4 => ?_)
  · rw [ifz_eq, Decidable.not_not] at c4
    refine sw_aload_n 10 dX12_read_9 rfl rfl rfl ?_
    refine sw_invVI 13 dX12_read_10 rfl lk_RX12_241 (m_readUnit I.1 hn hp tp) ⟨by decide, rfl⟩ rfl rfl (Nat.le_of_ble_eq_true rfl) (fun r10 h10 hq10 => ?_)
    obtain ⟨A, rfl, u1, u2, u3⟩ := hq10
    have eU : opRead σ s = (if (rdB σ).1 = true then (if topZ (rdB σ).2.2 4 ≤ 6 then ((1 : Int), setSh (setTp σ (0, σ.2.2.1.2)) s.toNat (rdS (tpS σ)) (rdB σ).2.2) else ((-9 : Int), setTp σ (0, σ.2.2.1.2))) else ((-100 : Int) - ((rdB σ).2.1 : Int), setTp σ (0, σ.2.2.1.2)) : RgZ) := by unfold opRead; rw [if_pos c4]
    refine sw_istore_n (lc' := [(0, _), (1, _), (2, _)]) 14 dX12_read_13 rfl rfl (by decide) rfl ?_
    refine sw_aload_n 15 dX12_read_14 rfl rfl rfl ?_
    refine sw_iconst (v := zI 0) 16 dX12_read_15 rfl (by decide) ?_
    refine sw_putI 19 dX12_read_16 rfl pf_RX12_225 rfl ⟨by decide, rfl⟩ ?_
    have A2 : frM [9] [14, 29, 8] h1 (sw_wI h10 0 8 (zI 0)) := frM_tr (frM_sub A (by decide) (by decide)) (frM_w0 (by decide))
    have I2 : IM (sw_wI h10 0 8 (zI 0)) (setTp σ (0, σ.2.2.1.2)) := IM_ls A2 I rfl rfl (by decide) (by decide) ⟨by rw [sw_wI_at]; simp [va_up, setTp], fun i hi => absurd hi (Nat.not_lt_zero i)⟩ (fun j hj => by rw [A2.1 7 (by decide) (by decide), A2.2.1 8 (by decide)]; exact I.2.2.2.2.2 j hj)
    have w1 : (sw_wI h10 0 8 (zI 0)).1 0 29 = zI (rdB σ).2.1 := by rw [sw_wI_at]; simp only [va_up]; rw [if_neg (by decide)]; exact u1
    have w2 : (sw_wI h10 0 8 (zI 0)).1 0 14 = zI (rdS (tpS σ)) := by rw [sw_wI_at]; simp only [va_up]; rw [if_neg (by decide)]; exact u2
    have w3 : (rdB σ).1 = true → rwM (sw_wI h10 0 8 (zI 0)) 9 σ.1.1.1 (rdB σ).2.2 := fun q i hi => by rw [sw_wI_ne (by decide)]; exact u3 q i hi
    generalize sw_wI h10 0 8 (zI 0) = g at A2 I2 w1 w2 w3 ⊢
    have tE : topZ (rdB σ).2.2 4 = topZ (rdB σ).2.2 σ.1.1.1 := by
      have := topZ_ext (e := (rdB σ).2.2) (n := σ.1.1.1) (4 - σ.1.1.1) (fun i h1 h2 => bz i h1)
      rw [show σ.1.1.1 + (4 - σ.1.1.1) = 4 by omega] at this; exact this
    refine sw_iload_n 20 dX12_read_19 rfl rfl rfl ?_
    refine sw_if_ne 31 23 dX12_read_20 (by decide) rfl (fun c20 => ?_) (fun c20 => ?_)
    · rw [bIz_eq, Bool.not_eq_false] at c20
      rw [if_pos c20, tE] at eU
      refine sw_aload_n 32 dX12_read_31 rfl rfl rfl ?_
      refine sw_aload_n 33 dX12_read_32 rfl rfl rfl ?_
      refine sw_getR (b := 9) 36 dX12_read_33 rfl gf_RX12_37 (fun _ _ _ _ => rfl) ⟨by decide, rfl⟩ rfl ?_
      refine sw_invVI 39 dX12_read_36 rfl lk_RX12_144 (m_heightOf (n := σ.1.1.1) (bx := σ.1.1.2.2) (p := σ.1.1.2.1) I2.1 hn r9 (w3 c20) (fun i _ => bb i)) ⟨by decide, rfl⟩ rfl rfl (Nat.le_of_ble_eq_true rfl) (fun r36 h36 hq36 => ?_)
      obtain ⟨rfl, rfl⟩ := hq36
      have tb := topZ_b (e := (rdB σ).2.2) (B := 1000) σ.1.1.1 (fun i _ => by have := bb i; omega)
      refine sw_bipush (v := zI 6) 41 dX12_read_39 rfl (by decide) ?_
      refine sw_icmp_le 47 44 dX12_read_41 (by decide) rfl (fun c41 => ?_) (fun c41 => ?_)
      · rw [zI_le (by omega) (by omega) (by omega) (by omega)] at c41
        obtain ⟨a, rfl⟩ := Int.eq_ofNat_of_zero_le c4.1
        refine sw_aload_n 48 dX12_read_47 rfl rfl rfl ?_
        refine sw_iload_n 49 dX12_read_48 rfl rfl rfl ?_
        refine sw_aload_n 50 dX12_read_49 rfl rfl rfl ?_
        refine sw_getR (b := 9) 53 dX12_read_50 rfl gf_RX12_37 (fun _ _ _ _ => rfl) ⟨by decide, rfl⟩ rfl ?_
        refine sw_aload_n 54 dX12_read_53 rfl rfl rfl ?_
        refine sw_getI 57 dX12_read_54 rfl gf_RX12_109 rfl ⟨by decide, rfl⟩ ?_
        rw [w2]
        refine sw_invVV 60 dX12_read_57 rfl lk_RX12_152 (m_gets (k_tp0 K _) I2 (show a < 4 by omega) r9 (by decide) (by decide) (w3 c20)) ⟨by decide, rfl⟩ rfl rfl (Nat.le_of_ble_eq_true rfl) (fun h57 hq57 => ?_)
        obtain ⟨I4, -⟩ := hq57
        refine sw_iconst (v := zI 1) 61 dX12_read_60 rfl (by decide) ?_
        exact sw_iret dX12_read_61 rfl (by rw [eU, if_pos (by omega)]; exact ⟨I4, rfl⟩)
      · rw [zI_le (by omega) (by omega) (by omega) (by omega)] at c41
        refine sw_bipush (v := zI (-9)) 46 dX12_read_44 rfl (by decide) ?_
        exact sw_iret dX12_read_46 rfl (by rw [eU, if_neg (by omega)]; exact ⟨I2, rfl⟩)
    · rw [bIz_eq] at c20
      rw [if_neg (by rw [c20]; decide)] at eU
      refine sw_bipush (v := zI (-100)) 25 dX12_read_23 rfl (by decide) ?_
      refine sw_aload_n 26 dX12_read_25 rfl rfl rfl ?_
      refine sw_getI 29 dX12_read_26 rfl gf_RX12_228 rfl ⟨by decide, rfl⟩ ?_
      rw [w1]
      refine sw_isub 30 dX12_read_29 rfl ?_
      exact sw_iret dX12_read_30 rfl (by rw [eU, zI_sub]; exact ⟨I2, rfl⟩)
  · rw [ifz_eq] at c4
    refine sw_iconst (v := zI (-1)) 8 dX12_read_7 rfl (by decide) ?_
    exact sw_iret dX12_read_8 rfl (by unfold opRead; rw [if_neg c4]; exact ⟨I, rfl⟩)
end sw_m10
