/-! THE REFERENCE, 14: all answers -/
theorem side_congr {p e f : Nat → Int} {s : Int} : ∀ n, (∀ i, i < n → e i = f i) → sideZ p e s n = sideZ p f s n
  | 0, _ => rfl
  | n + 1, h => by unfold sideZ; rw [side_congr n (fun i hi => h i (by omega)), h n (by omega)]
section sw_m14
variable {X : sw_X} {l : Launch} {d : Nat} {h : sw_H} {σ : SgZ} {n : Nat} {p bx : Nat → Int}
theorem dg6 (hb : ∀ i, i < n → 0 ≤ bx i ∧ bx i ≤ 4) (v : Nat) : e6Z n (dgE bx v) := fun i hi => by
  have h1 := dg_b (hb i hi).1 v
  have h2 := (hb i hi).2
  omega
/-- the answers among the first u units -/
def firstU (n : Nat) (p bx : Nat → Int) (u : Nat) (a b : Int) : Prop := ∃ v, v < u ∧ ansB n p bx (dgE bx (v / 2)) (sgU v) = true ∧ a = aU n p (dgE bx (v / 2)) (sgU v) ∧ b = bU n p (dgE bx (v / 2))
theorem first_in (kB : okB n p bx) {u : Nat} {a b : Int} (h : firstU n p bx u a b) : inT (ansT n p bx) a b := by
  obtain ⟨v, -, v2, rfl, rfl⟩ := h
  have hb := kB.2.2.2.2
  exact (tab_in kB).mpr ((ansB_iff (fun i hi => by have := (hb i hi).2; omega) (copP_of kB) (sgU_1 v) (dg6 hb _)).mp v2)
theorem first_all (kB : okB n p bx) {a b : Int} : firstU n p bx (2 * rdx bx n) a b ↔ inT (ansT n p bx) a b := by
  refine ⟨first_in kB, fun h => ?_⟩
  have hb := kB.2.2.2.2
  have hp := copP_of kB
  have hb6 : ∀ i, i < n → bx i ≤ 6 := fun i hi => by have := (hb i hi).2; omega
  have A := (tab_in kB).mp h
  obtain ⟨-, a1, a2, a3⟩ := ATri_unit hb6 hp A
  obtain ⟨v, v1, v2⟩ := dg_on (fun i hi => (hb i hi).1) (e := frU n p a b) (fun i hi => by have := a3 i hi; omega) n (Nat.le_refl _)
  have key : ∀ u, u / 2 = v → sgU u = frS a → aU n p (dgE bx (u / 2)) (sgU u) = a ∧ bU n p (dgE bx (u / 2)) = b := by
    intro u h1 h2
    rw [h1, h2]
    refine ⟨Eq.trans ?_ a1, Eq.trans ?_ a2⟩
    · unfold aU; rw [side_congr n v2]
    · unfold bU; rw [side_congr n v2]
  have fin : ∀ u, u < 2 * rdx bx n → u / 2 = v → sgU u = frS a → firstU n p bx (2 * rdx bx n) a b := by
    intro u h0 h1 h2
    obtain ⟨k1, k2⟩ := key u h1 h2
    refine ⟨u, h0, ?_, k1.symm, k2.symm⟩
    rw [ansB_iff hb6 hp (sgU_1 u) (dg6 hb _), k1, k2]
    exact A
  rcases frS_1 a with q | q
  · exact fin (2 * v) (by omega) (by omega) (by rw [q]; unfold sgU; rw [if_pos (by omega)])
  · exact fin (2 * v + 1) (by omega) (by omega) (by rw [q]; unfold sgU; rw [if_neg (by omega)])
theorem first_new (kB : okB n p bx) {u : Nat} (hu : u < 2 * rdx bx n) : ¬ firstU n p bx u (aU n p (dgE bx (u / 2)) (sgU u)) (bU n p (dgE bx (u / 2))) := by
  rintro ⟨v, v1, -, v3, v4⟩
  have hb := kB.2.2.2.2
  have hp := copP_of kB
  have f1 := fr_unit hp (sgU_1 u) (dg6 hb (u / 2))
  have f2 := fr_unit hp (sgU_1 v) (dg6 hb (v / 2))
  rw [v3, v4] at f1
  have e1 : v / 2 = u / 2 := dg_inj (fun i hi => (hb i hi).1) (by omega) (by omega) (fun i hi => (f2.2 i hi).symm.trans (f1.2 i hi))
  have e2 : sgU v = sgU u := f2.1.symm.trans f1.1
  unfold sgU at e2
  split at e2 <;> split at e2 <;> omega
theorem m_layAnswers (V : imB h n p bx) (kB : okB n p bx) : sw_ct wM X l (d + 3) mX12_layAnswers [.ref 0] h (sw_qV wM X fun h2 => frM [9, 10, 14, 15, 16, 17] [14, 15, 19] h h2 ∧ tbM h2 n p (ansT n p bx)) := by
  have hn := kB.1
  have hb := kB.2.2.2.2
  have hb0 : ∀ i, i < n → 0 ≤ bx i := fun i hi => (hb i hi).1
  have sT := tab_srt kB
  have cT := tab_264 kB
  refine sw_ct_of (by decide +kernel) (Nat.le_of_ble_eq_true rfl) rfl ?_
  generalize hQ : (sw_qV wM X fun h2 => frM [9, 10, 14, 15, 16, 17] [14, 15, 19] h h2 ∧ tbM h2 n p (ansT n p bx)) = Qc
  have loop : ∀ (c u : Nat) (g : sw_H) (T : TbZ), u + c = 2 * rdx bx n → frM [9, 10, 14, 15, 16, 17] [14, 15, 19] h g → rwM g 9 n (dgE bx (u / 2)) → g.1 0 14 = zI (sgU u) → tbM g n p T → srtZ T → (∀ a b, inT T a b ↔ firstU n p bx u a b) → sw_wp wM X l (d + 3) mX12_layAnswers Qc 11 [(0, .ref 0), (1, .int (bI (decide (u < 2 * rdx bx n))))] [] g := by
    intro c
    induction c with
    | zero =>
      intro u g T hu A R S W hT H
      have : u = 2 * rdx bx n := by omega
      subst this
      subst hQ
      rw [decide_eq_false (by omega)]
      refine sw_iload_n 12 dX12_layAnswers_11 rfl rfl rfl ?_
      refine sw_if_eq 34 15 dX12_layAnswers_12 (by decide) rfl (fun c12 => ?_) (fun c12 => ?_)
      · exact sw_vret dX12_layAnswers_34 rfl (by
  refine ⟨A, ?_⟩
  obtain ⟨s1, s2⟩ := srt_same hT sT (fun a b => (H a b).trans (first_all kB))
  refine ⟨by rw [← s1]; exact W.1, ⟨cT, fun i hi => ?_⟩, fun i hi => ?_⟩
  · rw [← (s2 i hi).1, ← (s2 i hi).2]; exact W.2.1.2 i (by omega)
  · rw [← (s2 i hi).1, ← (s2 i hi).2]; exact W.2.2 i (by omega))
      · exact absurd rfl c12
    | succ c ih =>
      intro u g T hu A R S W hT H
      rw [decide_eq_true (by omega)]
      have Vg : imB g n p bx := imB_fr V A (by decide) (by decide) (by decide)
      have e6 := dg6 hb (u / 2)
      have on : ∀ (g2 : sw_H) (T2 : TbZ), frM [10, 14, 15, 16, 17] [15, 19] g g2 → tbM g2 n p T2 → srtZ T2 → (∀ a b, inT T2 a b ↔ firstU n p bx (u + 1) a b) → sw_wp wM X l (d + 3) mX12_layAnswers Qc 26 [(0, .ref 0), (1, .int (bI true))] [] g2 := by
        intro g2 T2 B W2 hT2 H2
        have R2 : rwM g2 9 n (dgE bx (u / 2)) := rwM_fr R B (by decide) (by decide)
        have S2 : g2.1 0 14 = zI (sgU u) := by rw [B.2.2 14 (by decide)]; exact S
        have V2 : imB g2 n p bx := imB_fr Vg B (by decide) (by decide) (by decide)
        refine sw_aload_n 27 dX12_layAnswers_26 rfl rfl rfl ?_
        refine sw_invVI 30 dX12_layAnswers_27 rfl lk_RX12_179 (m_looksOn V2 hn hb (show u < 2 * rdx bx n by omega) R2 S2) ⟨by decide, rfl⟩ rfl rfl (Nat.le_of_ble_eq_true rfl) (fun r27 h27 hq27 => ?_)
        obtain ⟨C, rfl, R3, S3⟩ := hq27
        refine sw_istore_n (lc' := [(0, _), (1, _)]) 31 dX12_layAnswers_30 rfl rfl (by decide) rfl ?_
        refine sw_goto 11 dX12_layAnswers_31 (by decide) ?_
        exact ih (u + 1) _ T2 (by omega) (frM_tr A (frM_tr (frM_sub B (by decide) (by decide)) (frM_sub C (by decide) (by decide)))) R3 S3 (tbM_fr W2 C (by decide) (by decide)) hT2 H2
      refine sw_iload_n 12 dX12_layAnswers_11 rfl rfl rfl ?_
      refine sw_if_eq 34 15 dX12_layAnswers_12 (by decide) rfl (fun c12 => ?_) (fun c12 => ?_)
      · exact absurd c12 (by decide)
      · refine sw_aload_n 16 dX12_layAnswers_15 rfl rfl rfl ?_
        refine sw_invVI 19 dX12_layAnswers_16 rfl lk_RX12_173 (m_isAnswer Vg kB R e6 S (sgU_1 u)) ⟨by decide, rfl⟩ rfl rfl (Nat.le_of_ble_eq_true rfl) (fun r16 h16 hq16 => ?_)
        obtain ⟨B, rfl⟩ := hq16
        have W1 := tbM_fr W B (by decide) (by decide)
        refine sw_if_eq 26 22 dX12_layAnswers_19 (by decide) rfl (fun c19 => ?_) (fun c19 => ?_)
        · rw [bIz_eq] at c19
          refine on _ T (frM_sub B (by decide) (by decide)) W1 hT (fun a b => ?_)
          rw [H]
          refine ⟨fun ⟨v, v1, v2⟩ => ⟨v, by omega, v2⟩, fun ⟨v, v1, v2, v3, v4⟩ => ⟨v, ?_, v2, v3, v4⟩⟩
          by_cases ev : v = u
          · subst ev; rw [c19] at v2; exact absurd v2 (by decide)
          · omega
        · rw [bIz_eq, Bool.not_eq_false] at c19
          have no : ¬ inT T (aU n p (dgE bx (u / 2)) (sgU u)) (bU n p (dgE bx (u / 2))) := fun q => first_new kB (by omega) ((H _ _).mp q)
          have H2 : ∀ a b, inT (insX T (aU n p (dgE bx (u / 2)) (sgU u)) (bU n p (dgE bx (u / 2))) 0) a b ↔ firstU n p bx (u + 1) a b := by
            intro a b
            rw [insX_in, H]
            refine ⟨fun q => ?_, fun ⟨v, v1, v2, v3, v4⟩ => ?_⟩
            · rcases q with ⟨v, v1, v2⟩ | ⟨q1, q2⟩
              · exact ⟨v, by omega, v2⟩
              · exact ⟨u, by omega, c19, q1, q2⟩
            · by_cases ev : v = u
              · subst ev; exact Or.inr ⟨v3, v4⟩
              · exact Or.inl ⟨v, by omega, v2, v3, v4⟩
          have s2 := insX_srt (g := 0) hT no
          have lim := srt_sub s2 sT (fun i hi => first_in kB ((H2 _ _).mp ⟨i, hi, rfl, rfl⟩))
          have lim : T.1 + 1 ≤ (ansT n p bx).1 := lim
          refine sw_aload_n 23 dX12_layAnswers_22 rfl rfl rfl ?_
          refine sw_invVV 26 dX12_layAnswers_23 rfl lk_RX12_176 (m_answerComes (imB_fr Vg B (by decide) (by decide) (by decide)) kB (rwM_fr R B (by decide) (by decide)) e6 (by rw [B.2.2 14 (by decide)]; exact S) (sgU_1 u) W1 hT (by omega) no) ⟨by decide, rfl⟩ rfl rfl (Nat.le_of_ble_eq_true rfl) (fun h23 hq23 => ?_)
          obtain ⟨C, W2⟩ := hq23
          exact on _ _ (frM_tr (frM_sub B (by decide) (by decide)) (frM_sub C (by decide) (by decide))) W2 s2 H2
  have rp := rdx_pos hb0 n (Nat.le_refl _)
  refine sw_aload_n 1 dX12_layAnswers_0 rfl rfl rfl ?_
  refine sw_iconst (v := zI 0) 2 dX12_layAnswers_1 rfl (by decide) ?_
  refine sw_putI 5 dX12_layAnswers_2 rfl pf_RX12_167 rfl ⟨by decide, rfl⟩ ?_
  refine sw_aload_n 6 dX12_layAnswers_5 rfl rfl rfl ?_
  refine sw_invVV 9 dX12_layAnswers_6 rfl lk_RX12_170 (m_looksFirst (imB_fr V (frM_w0 (F := [19]) (by decide)) (L := []) (by decide) (by decide) (by decide)) hn hb) ⟨by decide, rfl⟩ rfl rfl (Nat.le_of_ble_eq_true rfl) (fun h6 hq6 => ?_)
  obtain ⟨A, R, S⟩ := hq6
  refine sw_iconst (v := zI 1) 10 dX12_layAnswers_9 rfl (by decide) ?_
  refine sw_istore_n (lc' := [(0, _), (1, _)]) 11 dX12_layAnswers_10 rfl rfl (by decide) rfl ?_
  have g9 := loop (2 * rdx bx n) 0 _ emptyT (by omega) (frM_tr (frM_w0 (by decide)) (frM_sub A (by decide) (by decide))) R S ⟨?_, ⟨by decide, fun i hi => absurd hi (Nat.not_lt_zero i)⟩, fun i hi => absurd hi (Nat.not_lt_zero i)⟩ (fun i j _ hj => absurd hj (Nat.not_lt_zero j)) (fun a b => ⟨fun ⟨i, hi, _⟩ => absurd hi (Nat.not_lt_zero i), fun ⟨v, hv, _⟩ => absurd hv (Nat.not_lt_zero v)⟩)
  · rw [decide_eq_true (by omega)] at g9
    exact g9
  · rw [A.2.2 19 (by decide), sw_wI_at]; simp [va_up, emptyT]
theorem r14 : sw_r wM 14 1 800 := ⟨by decide, rfl⟩
theorem r15 : sw_r wM 15 1 800 := ⟨by decide, rfl⟩
theorem IM_tab {h2 : sw_H} (I : IM h σ) (A : frM [9, 10, 14, 15, 16, 17] [14, 15, 19] h h2) : IM h2 σ := IM_fr I A (by decide) (by decide)
theorem m_layS (K : okS σ) (I : IM h σ) : sw_ct wM X l (d + 3) mX12_layAnswers [.ref 0] h (sw_qV wM X fun h2 => IM h2 σ ∧ tbM h2 σ.1.1.1 σ.1.1.2.1 (tabS σ)) := sw_ct_monoV (fun h2 q => ⟨IM_tab I q.1, q.2⟩) (m_layAnswers I.1 K.1.1)
theorem tabS_264 (K : okS σ) : (tabS σ).1 ≤ 264 := tab_264 K.1.1
theorem m_answers (K : okS σ) (I : IM h σ) : sw_ct wM X l (d + 4) mX12_answers [.ref 0] h (sw_qI wM X fun r h2 => IM h2 σ ∧ r = zI (tabS σ).1) := by
  refine sw_ct_of (by decide +kernel) (Nat.le_of_ble_eq_true rfl) rfl ?_
  refine sw_aload_n 1 dX12_answers_0 rfl rfl rfl ?_
  refine sw_invVV 4 dX12_answers_1 rfl lk_RX12_182 (m_layS K I) ⟨by decide, rfl⟩ rfl rfl (Nat.le_of_ble_eq_true rfl) (fun h1 hq1 => ?_)
  obtain ⟨I2, W⟩ := hq1
  refine sw_aload_n 5 dX12_answers_4 rfl rfl rfl ?_
  refine sw_getI 8 dX12_answers_5 rfl gf_RX12_167 rfl ⟨by decide, rfl⟩ ?_
  exact sw_iret dX12_answers_8 rfl (⟨I2, W.1⟩)
theorem m_answer (K : okS σ) (I : IM h σ) {i x : Int} (i1 : -2147483648 ≤ i) (i2 : i < 2147483648) (x1 : -2147483648 ≤ x) (x2 : x < 2147483648) : sw_ct wM X l (d + 4) mX12_answer [.ref 0, .int (zI i), .int (zI x)] h (sw_qL wM X fun r h2 => IM h2 σ ∧ r = zL (opAnswer (tabS σ) i x)) := by
  have hN := tabS_264 K
  refine sw_ct_of (by decide +kernel) (Nat.le_of_ble_eq_true rfl) rfl ?_
  refine sw_aload_n 1 dX12_answer_0 rfl rfl rfl ?_
  refine sw_invVV 4 dX12_answer_1 rfl lk_RX12_182 (m_layS K I) ⟨by decide, rfl⟩ rfl rfl (Nat.le_of_ble_eq_true rfl) (fun h1 hq1 => ?_)
  obtain ⟨I2, W⟩ := hq1
  refine sw_iload_n 5 dX12_answer_4 rfl rfl rfl ?_
  refine sw_iconst (v := zI 0) 6 dX12_answer_5 rfl (by decide) ?_
  refine sw_aload_n 7 dX12_answer_6 rfl rfl rfl ?_
  refine sw_getI 10 dX12_answer_7 rfl gf_RX12_167 rfl ⟨by decide, rfl⟩ ?_
  rw [W.1]
  refine sw_iconst (v := zI 1) 11 dX12_answer_10 rfl (by decide) ?_
  refine sw_isub 12 dX12_answer_11 rfl ?_
  rw [zI_sub]
  refine sw_invSI 15 dX12_answer_12 rfl lk_RX12_87 (c_in i1 i2 (by decide) (by decide) (by omega) (by omega)) rfl rfl (Nat.le_of_ble_eq_true rfl) (fun r12 h12 hq12 => ?_)
  obtain ⟨rfl, rfl⟩ := hq12
  refine sw_if_eq 27 18 dX12_answer_15 (by decide) rfl (fun c15 => ?_) (fun c15 => ?_)
  · refine sw_ldc2 30 dX12_answer_27 rfl (show Cond.constantLong RX12 135 (zL (-9223372036854775808)) ∈ sw_big from kk_RX12_135) ?_
    exact sw_lret dX12_answer_30 rfl (by
  rw [ifz_eq] at c15
  unfold opAnswer; rw [if_neg (show ¬ (0 ≤ i ∧ i < (tabS σ).1) by omega)]
  refine ⟨I2, ?_⟩
  split <;> rfl)
  · rw [ifz_eq, Decidable.not_not] at c15
    refine sw_iload_n 19 dX12_answer_18 rfl rfl rfl ?_
    refine sw_iconst (v := zI 0) 20 dX12_answer_19 rfl (by decide) ?_
    refine sw_iconst (v := zI 1) 21 dX12_answer_20 rfl (by decide) ?_
    refine sw_invSI 24 dX12_answer_21 rfl lk_RX12_87 (c_in x1 x2 (by decide) (by decide) (by decide) (by decide)) rfl rfl (Nat.le_of_ble_eq_true rfl) (fun r21 h21 hq21 => ?_)
    obtain ⟨rfl, rfl⟩ := hq21
    refine sw_if_ne 31 27 dX12_answer_24 (by decide) rfl (fun c24 => ?_) (fun c24 => ?_)
    · rw [ifz_eq, Decidable.not_not] at c24
      have hin := zI_in (a := i) (n := 800) (by omega) (by omega) (by decide)
      obtain ⟨k, rfl⟩ := Int.eq_ofNat_of_zero_le c15.1
      have row := W.2.2 k (by omega)
      refine sw_iload_n 32 dX12_answer_31 rfl rfl rfl ?_
      refine sw_if_ne 44 35 dX12_answer_32 (by decide) rfl (fun c32 => ?_) (fun c32 => ?_)
      · rw [z0, zI_eq (by omega) (by omega) (by omega) (by omega)] at c32
        refine sw_aload_n 45 dX12_answer_44 rfl rfl rfl ?_
        refine sw_getR (b := 15) 48 dX12_answer_45 rfl gf_RX12_55 (fun _ _ _ _ => rfl) ⟨by decide, rfl⟩ rfl ?_
        refine sw_iload_n 49 dX12_answer_48 rfl rfl rfl ?_
        refine sw_lald 50 dX12_answer_49 rfl ⟨by decide, rfl⟩ (by assumption) ?_
        exact sw_lret dX12_answer_50 rfl (by
  rw [zI_clampN (by omega)]
  unfold opAnswer; rw [if_pos (by omega), if_pos (by omega)]
  first
  | (rw [if_pos (by omega)]; exact ⟨I2, row.1⟩)
  | (rw [if_neg (by omega)]; exact ⟨I2, row.2.1⟩))
      · rw [z0, zI_eq (by omega) (by omega) (by omega) (by omega)] at c32
        refine sw_aload_n 36 dX12_answer_35 rfl rfl rfl ?_
        refine sw_getR (b := 14) 39 dX12_answer_36 rfl gf_RX12_52 (fun _ _ _ _ => rfl) ⟨by decide, rfl⟩ rfl ?_
        refine sw_iload_n 40 dX12_answer_39 rfl rfl rfl ?_
        refine sw_lald 41 dX12_answer_40 rfl ⟨by decide, rfl⟩ (by assumption) ?_
        refine sw_goto 50 dX12_answer_41 (by decide) ?_
        exact sw_lret dX12_answer_50 rfl (by
  rw [zI_clampN (by omega)]
  unfold opAnswer; rw [if_pos (by omega), if_pos (by omega)]
  first
  | (rw [if_pos (by omega)]; exact ⟨I2, row.1⟩)
  | (rw [if_neg (by omega)]; exact ⟨I2, row.2.1⟩))
    · refine sw_ldc2 30 dX12_answer_27 rfl (show Cond.constantLong RX12 135 (zL (-9223372036854775808)) ∈ sw_big from kk_RX12_135) ?_
      exact sw_lret dX12_answer_30 rfl (by
  rw [ifz_eq] at c24
  unfold opAnswer; rw [if_neg (by omega)]; exact ⟨I2, rfl⟩)
theorem m_looksAnswer {T : TbZ} (V : imB h n p bx) (hn : n ≤ 4) (W : tbM h n p T) {k : Nat} (hk : k < T.1) : sw_ct wM X l d mX12_looksAnswer [.ref 0, .int (zI k)] h (sw_qV wM X fun h2 => frM [9] [14] h h2 ∧ rwM h2 9 n (frU n p (T.2.1 k) (T.2.2.1 k)) ∧ h2.1 0 14 = zI (frS (T.2.1 k))) := by
  have hN := W.2.1.1
  have row := W.2.2 k hk
  refine sw_ct_of (by decide +kernel) (Nat.le_of_ble_eq_true rfl) rfl ?_
  generalize hQ : (sw_qV wM X fun h2 => frM [9] [14] h h2 ∧ rwM h2 9 n (frU n p (T.2.1 k) (T.2.2.1 k)) ∧ h2.1 0 14 = zI (frS (T.2.1 k))) = Qc
  have hin8 := zI_inN (a := k) (n := 800) (by omega) (by decide)
  have loop : ∀ (c j : Nat) (F : Nat → Int32), j + c = n → (∀ i, i < j → F i = zI (frU n p (T.2.1 k) (T.2.2.1 k) i)) → sw_wp wM X l d mX12_looksAnswer Qc 2 [(0, .ref 0), (1, .int (zI k)), (2, .int (zI j))] [] (sw_pI h 9 F) := by
    intro c
    have e0 : ∀ F, (sw_pI h 9 F).1 0 0 = zI n := fun F => by rw [sw_pI_ne (by decide)]; exact V.1
    induction c with
    | zero =>
      intro j F hj hF
      have : j = n := by omega
      subst this
      have e4 : (sw_pI h 9 F).1 17 k = zI (frS (T.2.1 k)) := by rw [sw_pI_ne (by decide)]; exact row.2.2.1
      subst hQ
      refine sw_iload_n 3 dX12_looksAnswer_2 rfl rfl rfl ?_
      refine sw_aload_n 4 dX12_looksAnswer_3 rfl rfl rfl ?_
      refine sw_getI 7 dX12_looksAnswer_4 rfl gf_RX12_83 rfl ⟨by decide, rfl⟩ ?_
      rw [e0]
      refine sw_icmp_ge 32 10 dX12_looksAnswer_7 (by decide) rfl (fun c7 => ?_) (fun c7 => ?_)
      · refine sw_aload_n 33 dX12_looksAnswer_32 rfl rfl rfl ?_
        refine sw_aload_n 34 dX12_looksAnswer_33 rfl rfl rfl ?_
        refine sw_getR (b := 17) 37 dX12_looksAnswer_34 rfl gf_RX12_61 (fun _ _ _ _ => rfl) ⟨by decide, rfl⟩ rfl ?_
        refine sw_iload_n 38 dX12_looksAnswer_37 rfl rfl rfl ?_
        refine sw_iald 39 dX12_looksAnswer_38 rfl ⟨by decide, rfl⟩ (by assumption) ?_
        rw [zI_clampN (by omega), e4]
        refine sw_putI 42 dX12_looksAnswer_39 rfl pf_RX12_109 rfl ⟨by decide, rfl⟩ ?_
        exact sw_vret dX12_looksAnswer_42 rfl (⟨frM_tr (frM_pI (by decide) (by decide)) (frM_w0 (by decide)), fun i hi => by rw [sw_wI_ne (by decide), sw_pI_at]; exact hF i hi, by rw [sw_wI_at]; simp [va_up]⟩)
      · exact absurd (Int32.le_refl _) c7
    | succ c ih =>
      intro j F hj hF
      have e1 : zI 4 * zI k + zI j = zI ((4 * k + j : Nat) : Int) := by rw [zI_mul, zI_add]; congr 1
      have hin1 := zI_inN (a := 4 * k + j) (n := 3200) (by omega) (by decide)
      have hin2 := zI_inN (a := j) (n := 4) (by omega) (by decide)
      have e3 : (sw_pI h 9 F).1 16 (4 * k + j) = zI (frU n p (T.2.1 k) (T.2.2.1 k) j) := by rw [sw_pI_ne (by decide)]; exact row.2.2.2 j (by omega)
      refine sw_iload_n 3 dX12_looksAnswer_2 rfl rfl rfl ?_
      refine sw_aload_n 4 dX12_looksAnswer_3 rfl rfl rfl ?_
      refine sw_getI 7 dX12_looksAnswer_4 rfl gf_RX12_83 rfl ⟨by decide, rfl⟩ ?_
      rw [e0]
      refine sw_icmp_ge 32 10 dX12_looksAnswer_7 (by decide) rfl (fun c7 => ?_) (fun c7 => ?_)
      · exact absurd c7 (by rw [zI_le (by omega) (by omega) (by omega) (by omega)]; omega)
      · refine sw_aload_n 11 dX12_looksAnswer_10 rfl rfl rfl ?_
        refine sw_getR (b := 9) 14 dX12_looksAnswer_11 rfl gf_RX12_37 (fun _ _ _ _ => rfl) ⟨by decide, rfl⟩ rfl ?_
        refine sw_iload_n 15 dX12_looksAnswer_14 rfl rfl rfl ?_
        refine sw_aload_n 16 dX12_looksAnswer_15 rfl rfl rfl ?_
        refine sw_getR (b := 16) 19 dX12_looksAnswer_16 rfl gf_RX12_58 (fun _ _ _ _ => rfl) ⟨by decide, rfl⟩ rfl ?_
        refine sw_iconst (v := zI 4) 20 dX12_looksAnswer_19 rfl (by decide) ?_
        refine sw_iload_n 21 dX12_looksAnswer_20 rfl rfl rfl ?_
        refine sw_imul 22 dX12_looksAnswer_21 rfl ?_
        refine sw_iload_n 23 dX12_looksAnswer_22 rfl rfl rfl ?_
        refine sw_iadd 24 dX12_looksAnswer_23 rfl ?_
        rw [e1]
        refine sw_iald 25 dX12_looksAnswer_24 rfl ⟨by decide, rfl⟩ (by assumption) ?_
        refine sw_iast 26 dX12_looksAnswer_25 rfl ⟨by decide, rfl⟩ (by assumption) ?_
        refine sw_iinc (v := zI 1) (lc' := [(0, _), (1, _), (2, _)]) 29 dX12_looksAnswer_26 rfl (by decide) rfl rfl rfl ?_
        refine sw_goto 2 dX12_looksAnswer_29 (by decide) ?_
        rw [zI_clampN (by omega), zI_clampN (by omega), e3, sw_wI_pI, zI_add]
        refine ih (j + 1) _ (by omega) (fun i hi => ?_)
        unfold va_up
        by_cases c : i = j
        · rw [if_pos c, c]
        · rw [if_neg c]; exact hF i (by omega)
  refine sw_iconst (v := zI 0) 1 dX12_looksAnswer_0 rfl (by decide) ?_
  refine sw_istore_n (lc' := [(0, _), (1, _), (2, _)]) 2 dX12_looksAnswer_1 rfl rfl (by decide) rfl ?_
  have g := loop n 0 (h.1 9) (by omega) (fun i hi => absurd hi (Nat.not_lt_zero i))
  rw [sw_pI_self rfl] at g
  exact g
theorem m_take (K : okS σ) (I : IM h σ) {i s : Int} (i1 : -2147483648 ≤ i) (i2 : i < 2147483648) (s1 : -2147483648 ≤ s) (s2 : s < 2147483648) : sw_ct wM X l (d + 4) mX12_take [.ref 0, .int (zI i), .int (zI s)] h (sw_qI wM X fun r h2 => IM h2 (opTake (tabS σ) σ i s).2 ∧ r = zI (opTake (tabS σ) σ i s).1) := by
  have hN := tabS_264 K
  have hn := K.1.1.1
  have hp := copP_of K.1.1
  refine sw_ct_of (by decide +kernel) (Nat.le_of_ble_eq_true rfl) rfl ?_
  refine sw_aload_n 1 dX12_take_0 rfl rfl rfl ?_
  refine sw_invVV 4 dX12_take_1 rfl lk_RX12_182 (m_layS K I) ⟨by decide, rfl⟩ rfl rfl (Nat.le_of_ble_eq_true rfl) (fun h1 hq1 => ?_)
  obtain ⟨I2, W⟩ := hq1
  refine sw_iload_n 5 dX12_take_4 rfl rfl rfl ?_
  refine sw_iconst (v := zI 0) 6 dX12_take_5 rfl (by decide) ?_
  refine sw_aload_n 7 dX12_take_6 rfl rfl rfl ?_
  refine sw_getI 10 dX12_take_7 rfl gf_RX12_167 rfl ⟨by decide, rfl⟩ ?_
  rw [W.1]
  refine sw_iconst (v := zI 1) 11 dX12_take_10 rfl (by decide) ?_
  refine sw_isub 12 dX12_take_11 rfl ?_
  rw [zI_sub]
  refine sw_invSI 15 dX12_take_12 rfl lk_RX12_87 (c_in i1 i2 (by decide) (by decide) (by omega) (by omega)) rfl rfl (Nat.le_of_ble_eq_true rfl) (fun r12 h12 hq12 => ?_)
  obtain ⟨rfl, rfl⟩ := hq12
  refine sw_if_eq 25 18 dX12_take_15 (by decide) rfl (fun c15 => ?_) (fun c15 => ?_)
  · refine sw_iconst (v := zI (-1)) 26 dX12_take_25 rfl (by decide) ?_
    exact sw_iret dX12_take_26 rfl (by
  rw [ifz_eq] at c15
  unfold opTake; rw [if_neg (fun hh => c15 (by omega))]; exact ⟨I2, rfl⟩)
  · rw [ifz_eq, Decidable.not_not] at c15
    refine sw_iload_n 19 dX12_take_18 rfl rfl rfl ?_
    refine sw_invSI 22 dX12_take_19 rfl lk_RX12_132 (m_isShelf s1 s2) rfl rfl (Nat.le_of_ble_eq_true rfl) (fun r19 h19 hq19 => ?_)
    obtain ⟨rfl, rfl⟩ := hq19
    refine sw_if_ne 27 25 dX12_take_22 (by decide) rfl (fun c22 => ?_) (fun c22 => ?_)
    · rw [ifz_eq, Decidable.not_not] at c22
      obtain ⟨k, rfl⟩ := Int.eq_ofNat_of_zero_le c15.1
      obtain ⟨a, rfl⟩ := Int.eq_ofNat_of_zero_le c22.1
      have hk : k < (tabS σ).1 := by omega
      have ha : a < 4 := by omega
      refine sw_aload_n 28 dX12_take_27 rfl rfl rfl ?_
      refine sw_iload_n 29 dX12_take_28 rfl rfl rfl ?_
      refine sw_invVV 32 dX12_take_29 rfl lk_RX12_185 (m_looksAnswer I2.1 hn W hk) ⟨by decide, rfl⟩ rfl rfl (Nat.le_of_ble_eq_true rfl) (fun h29 hq29 => ?_)
      obtain ⟨B, R, S⟩ := hq29
      have I3 := IM_fr I2 B (by decide) (by decide)
      refine sw_aload_n 33 dX12_take_32 rfl rfl rfl ?_
      refine sw_iload_n 34 dX12_take_33 rfl rfl rfl ?_
      refine sw_aload_n 35 dX12_take_34 rfl rfl rfl ?_
      refine sw_getR (b := 9) 38 dX12_take_35 rfl gf_RX12_37 (fun _ _ _ _ => rfl) ⟨by decide, rfl⟩ rfl ?_
      refine sw_aload_n 39 dX12_take_38 rfl rfl rfl ?_
      refine sw_getI 42 dX12_take_39 rfl gf_RX12_109 rfl ⟨by decide, rfl⟩ ?_
      rw [S]
      refine sw_invVV 45 dX12_take_42 rfl lk_RX12_152 (m_gets K I3 ha r9 (by decide) (by decide) R) ⟨by decide, rfl⟩ rfl rfl (Nat.le_of_ble_eq_true rfl) (fun h42 hq42 => ?_)
      obtain ⟨I4, -⟩ := hq42
      refine sw_iconst (v := zI 1) 46 dX12_take_45 rfl (by decide) ?_
      exact sw_iret dX12_take_46 rfl (by
  have tr := (tab_in K.1.1).mp ⟨k, hk, rfl, rfl⟩
  have ok := (ATri_unit (fun i hi => by have := (K.1.1.2.2.2.2 i hi).2; omega) hp tr).1
  unfold opTake; rw [if_pos (by omega)]
  simp only [Int.toNat_natCast]
  rw [if_pos ok]; exact ⟨I4, rfl⟩)
    · refine sw_iconst (v := zI (-1)) 26 dX12_take_25 rfl (by decide) ?_
      exact sw_iret dX12_take_26 rfl (by
  rw [ifz_eq] at c22
  unfold opTake; rw [if_neg (fun hh => c22 hh.2)]; exact ⟨I2, rfl⟩)
end sw_m14
