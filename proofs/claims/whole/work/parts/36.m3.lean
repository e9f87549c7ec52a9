/-! THE REFERENCE, 3: prime, drop, sieves -/
theorem imU_ins {n t : Nat} {e : Nat → Int} {F R : Nat → Int32} (ht : t ≤ n) (hn : n < 4) (hR : ∀ i, i < n → R i = zI (e i)) (hF : ∀ i, i < 4 → F i = insR t n (zI 0) R i) : ∀ i, i < n + 1 → F i = zI (insR t 3 0 e i) := by
  intro i hi
  rw [hF i (by omega)]
  by_cases c1 : i < t
  · rw [insR_lt c1, insR_lt c1]; exact hR i (by omega)
  · by_cases c2 : i = t
    · subst c2; rw [insR_eq, insR_eq]
    · rw [insR_gt (by omega) (by omega), insR_gt (by omega) (by omega)]; exact hR (i - 1) (by omega)
section sw_m3
variable {X : sw_X} {l : Launch} {d : Nat} {h : sw_H} {σ : SgZ}
theorem m_prime (K : okS σ) (I : IM h σ) {v : Int} (v1 : -2147483648 ≤ v) (v2 : v < 2147483648) : sw_ct wM X l (d + 1) mX12_prime [.ref 0, .int (zI v)] h (sw_qI wM X fun r h2 => IM h2 (opPrime σ v).2 ∧ r = zI (opPrime σ v).1) := by
  have hn := K.1.1.1
  have hp : ∀ i, i < σ.1.1.1 → 2 ≤ σ.1.1.2.1 i ∧ σ.1.1.2.1 i ≤ 31 := fun i hi => kB_2 K hi
  have hpr : prodZ σ.1.1.2.1 σ.1.1.1 ≤ 1000 := K.1.1.2.2.2.1
  have hpo : 0 < prodZ σ.1.1.2.1 σ.1.1.1 := prodZ_pos _ (fun i hi => by have := hp i hi; omega)
  have kq := K.1.2.2
  have fr := fndZ_in σ.1.1.2.1 v σ.1.1.1 0
  have hat := insAt_le σ.1.1.2.1 v σ.1.1.1
  refine sw_ct_of (by decide +kernel) (Nat.le_of_ble_eq_true rfl) rfl ?_
  generalize hQ : (sw_qI wM X fun r h2 => IM h2 (opPrime σ v).2 ∧ r = zI (opPrime σ v).1) = Qc
  -- the shelves' rows get a 0
  have lC : prmZ v 2 31 = true → fndZ σ.1.1.2.1 v σ.1.1.1 0 = -1 → σ.1.1.1 < 4 → prodZ σ.1.1.2.1 σ.1.1.1 * v ≤ 1000 → ∀ (all : Int32) (c j : Nat) (g : sw_H), j + c = 4 → frM [1, 2, 3] [] h g → g.1 1 = insR (insAt σ.1.1.2.1 v σ.1.1.1) σ.1.1.1 (zI v) (h.1 1) → g.1 2 = insR (insAt σ.1.1.2.1 v σ.1.1.1) σ.1.1.1 (zI 2) (h.1 2) → (∀ s, s < 4 → ∀ i, i < 4 → g.1 3 (4 * s + i) = if s < j then insR (insAt σ.1.1.2.1 v σ.1.1.1) σ.1.1.1 (zI 0) (fun j => h.1 3 (4 * s + j)) i else shR (insAt σ.1.1.2.1 v σ.1.1.1) σ.1.1.1 (fun j => h.1 3 (4 * s + j)) i) →
      sw_wp wM X l (d + 1) mX12_prime Qc 128 [(0, .ref 0), (1, .int (zI v)), (2, .int all), (3, .int (zI (insAt σ.1.1.2.1 v σ.1.1.1))), (4, .int (zI j))] [] g := by
    intro c7 c26 hn4 hpp all c
    generalize ht : insAt σ.1.1.2.1 v σ.1.1.1 = t at hat
    induction c with
    | zero =>
      intro j g hj A g1 g2 g3
      have : j = 4 := by omega
      subst this
      have hS : imS (sw_wI g 0 0 (zI (σ.1.1.1 + 1))) (σ.1.2.2.1, σ.1.2.2.2) := by
        refine ⟨?_, fun i hi => ?_⟩
        · rw [sw_wI_at]; unfold va_up; rw [if_neg (by decide), A.2.2 5 (by decide)]; exact I.2.2.1.1
        · rw [sw_wI_ne (by decide), A.1 5 (by decide) (by decide)]; exact I.2.2.1.2 i hi
      subst hQ
      have e0 : g.1 0 0 = zI σ.1.1.1 := by rw [A.2.2 0 (by decide)]; exact I.1.1
      refine sw_iload 130 dX12_prime_128 rfl rfl ?_
      refine sw_iconst (v := zI 4) 131 dX12_prime_130 rfl (by decide) ?_
      refine sw_icmp_ge 152 134 dX12_prime_131 (by decide) rfl (fun c131 => ?_) (fun c131 => ?_)
      · refine sw_aload_n 153 dX12_prime_152 rfl rfl rfl ?_
        refine sw_dup 154 dX12_prime_153 rfl rfl ?_
        refine sw_getI 157 dX12_prime_154 rfl gf_RX12_83 rfl ⟨by decide, rfl⟩ ?_
        rw [e0]
        refine sw_iconst (v := zI 1) 158 dX12_prime_157 rfl (by decide) ?_
        refine sw_iadd 159 dX12_prime_158 rfl ?_
        rw [zI_add]
        refine sw_putI 162 dX12_prime_159 rfl pf_RX12_83 rfl ⟨by decide, rfl⟩ ?_
        refine sw_aload_n 163 dX12_prime_162 rfl rfl rfl ?_
        refine sw_iload_n 164 dX12_prime_163 rfl rfl rfl ?_
        refine sw_invVI 167 dX12_prime_164 rfl lk_RX12_103 (m_forgets hS (by have := kq.1; omega) (fun i hi => by have := (kq.2.1 i hi).2; omega) kq.2.2 v1 v2) ⟨by decide, rfl⟩ rfl rfl (Nat.le_of_ble_eq_true rfl) (fun r164 h164 hq164 => ?_)
        obtain ⟨B, hS2, -⟩ := hq164
        refine sw_istore (lc' := [(0, _), (1, _), (2, _), (3, _), (4, _)]) 169 dX12_prime_167 rfl (by decide) rfl ?_
        refine sw_aload_n 170 dX12_prime_169 rfl rfl rfl ?_
        refine sw_getI 173 dX12_prime_170 rfl gf_RX12_83 rfl ⟨by decide, rfl⟩ ?_
        exact sw_iret dX12_prime_173 rfl (by
  have e := opPrime_add (σ := σ) (v := v) c7 c26 hn4 hpp
  rw [e, ht]
  have e00 : h164.1 0 0 = zI (σ.1.1.1 + 1) := by rw [B.2.2 0 (by decide), sw_wI_at]; simp [va_up]
  refine ⟨frM_I (L := [1, 2, 3, 5]) (F := [0, 5]) (frM_tr (frM_sub A (by decide) (by decide)) (frM_tr (frM_w0 (k := 0) (x := zI (σ.1.1.1 + 1)) (by decide)) (frM_sub B (by decide) (by decide)))) I rfl (by decide) (by decide) ⟨e00, fun i hi => ?_⟩ (fun s hs => ⟨?_, ?_⟩) hS2, e00⟩
  · have hi : i < σ.1.1.1 + 1 := hi
    rw [B.1 1 (by decide) (by decide), B.1 2 (by decide) (by decide), sw_wI_ne (by decide), sw_wI_ne (by decide), g1, g2]
    exact ⟨insR_map (fun a b => a = zI b) rfl (fun j hj => (I.1.2 j hj).1) hat hi, insR_map (fun a b => a = zI b) rfl (fun j hj => (I.1.2 j hj).2) hat hi⟩
  · rw [B.1 4 (by decide) (by decide), sw_wI_ne (by decide), A.1 4 (by decide) (by decide)]; exact (I.2.1 s hs).1
  · rw [B.1 3 (by decide) (by decide), sw_wI_ne (by decide)]
    exact imU_ins (F := fun i => g.1 3 (4 * s + i)) hat hn4 (I.2.1 s hs).2 (fun i hi => by show g.1 3 (4 * s + i) = _; rw [g3 s hs i hi, if_pos hs]))
      · exact absurd (Int32.le_refl _) c131
    | succ c ih =>
      intro j g hj A g1 g2 g3
      have e1 : zI 4 * zI j + zI t = zI ((4 * j + t : Nat) : Int) := by rw [zI_mul, zI_add]; rfl
      have hin3 := zI_inN (a := 4 * j + t) (n := 20) (by omega) (by decide)
      refine sw_iload 130 dX12_prime_128 rfl rfl ?_
      refine sw_iconst (v := zI 4) 131 dX12_prime_130 rfl (by decide) ?_
      refine sw_icmp_ge 152 134 dX12_prime_131 (by decide) rfl (fun c131 => ?_) (fun c131 => ?_)
      · exact absurd c131 (by rw [zI_le (by omega) (by omega) (by omega) (by omega)]; omega)
      · refine sw_aload_n 135 dX12_prime_134 rfl rfl rfl ?_
        refine sw_getR (b := 3) 138 dX12_prime_135 rfl gf_RX12_18 (fun _ _ _ _ => rfl) ⟨by decide, rfl⟩ rfl ?_
        refine sw_iconst (v := zI 4) 139 dX12_prime_138 rfl (by decide) ?_
        refine sw_iload 141 dX12_prime_139 rfl rfl ?_
        refine sw_imul 142 dX12_prime_141 rfl ?_
        refine sw_iload_n 143 dX12_prime_142 rfl rfl rfl ?_
        refine sw_iadd 144 dX12_prime_143 rfl ?_
        rw [e1]
        refine sw_iconst (v := zI 0) 145 dX12_prime_144 rfl (by decide) ?_
        refine sw_iast 146 dX12_prime_145 rfl ⟨by decide, rfl⟩ (by assumption) ?_
        refine sw_iinc (v := zI 1) (lc' := [(0, _), (1, _), (2, _), (3, _), (4, _)]) 149 dX12_prime_146 rfl (by decide) rfl rfl rfl ?_
        refine sw_goto 128 dX12_prime_149 (by decide) ?_
        rw [zI_clampN (by omega), zI_add]
        refine ih (j + 1) _ (by omega) (frM_tr A (frM_wI (by decide) (by decide))) (by rw [sw_wI_ne (by decide)]; exact g1) (by rw [sw_wI_ne (by decide)]; exact g2) (fun s hs i hi => ?_)
        rw [sw_wI_at]
        have e9 := congrFun (shR_ins (i := t) (n := σ.1.1.1) (zI 0) (fun j => h.1 3 (4 * s + j))) i
        have e8 := g3 s hs i hi
        unfold va_up at e9 ⊢
        by_cases c1 : 4 * s + i = 4 * j + t
        · rw [if_pos c1, if_pos (by omega), ← e9, if_pos (by omega)]
        · rw [if_neg c1, e8]
          by_cases c2 : s < j
          · rw [if_pos c2, if_pos (by omega)]
          · rw [if_neg c2]
            by_cases c3 : s < j + 1
            · rw [if_pos c3, ← e9, if_neg (by omega)]
            · rw [if_neg c3]
  have lB : prmZ v 2 31 = true → fndZ σ.1.1.2.1 v σ.1.1.1 0 = -1 → σ.1.1.1 < 4 → prodZ σ.1.1.2.1 σ.1.1.1 * v ≤ 1000 → ∀ (all : Int32) (j : Nat) (g : sw_H), j ≤ σ.1.1.1 → insAt σ.1.1.2.1 v j = insAt σ.1.1.2.1 v σ.1.1.1 → frM [1, 2, 3] [] h g → g.1 1 = shR j σ.1.1.1 (h.1 1) → g.1 2 = shR j σ.1.1.1 (h.1 2) → (∀ s, s < 4 → ∀ i, i < 4 → g.1 3 (4 * s + i) = shR j σ.1.1.1 (fun j => h.1 3 (4 * s + j)) i) →
      sw_wp wM X l (d + 1) mX12_prime Qc 81 [(0, .ref 0), (1, .int (zI v)), (2, .int all), (3, .int (zI j))] [] g := by
    intro c7 c26 hn4 hpp all j
    have put : ∀ (g : sw_H) (t : Nat), t = insAt σ.1.1.2.1 v σ.1.1.1 → frM [1, 2, 3] [] h g → g.1 1 = shR t σ.1.1.1 (h.1 1) → g.1 2 = shR t σ.1.1.1 (h.1 2) → (∀ s, s < 4 → ∀ i, i < 4 → g.1 3 (4 * s + i) = shR t σ.1.1.1 (fun j => h.1 3 (4 * s + j)) i) → sw_wp wM X l (d + 1) mX12_prime Qc 111 [(0, .ref 0), (1, .int (zI v)), (2, .int all), (3, .int (zI t))] [] g := by
      intro g t et A g1 g2 g3
      have ht : t ≤ σ.1.1.1 := by rw [et]; exact hat
      have hin := zI_inN (a := t) (n := 5) (by omega) (by decide)
      refine sw_aload_n 112 dX12_prime_111 rfl rfl rfl ?_
      refine sw_getR (b := 1) 115 dX12_prime_112 rfl gf_RX12_9 (fun _ _ _ _ => rfl) ⟨by decide, rfl⟩ rfl ?_
      refine sw_iload_n 116 dX12_prime_115 rfl rfl rfl ?_
      refine sw_iload_n 117 dX12_prime_116 rfl rfl rfl ?_
      refine sw_iast 118 dX12_prime_117 rfl ⟨by decide, rfl⟩ (by assumption) ?_
      refine sw_aload_n 119 dX12_prime_118 rfl rfl rfl ?_
      refine sw_getR (b := 2) 122 dX12_prime_119 rfl gf_RX12_15 (fun _ _ _ _ => rfl) ⟨by decide, rfl⟩ rfl ?_
      refine sw_iload_n 123 dX12_prime_122 rfl rfl rfl ?_
      refine sw_iconst (v := zI 2) 124 dX12_prime_123 rfl (by decide) ?_
      refine sw_iast 125 dX12_prime_124 rfl ⟨by decide, rfl⟩ (by assumption) ?_
      refine sw_iconst (v := zI 0) 126 dX12_prime_125 rfl (by decide) ?_
      refine sw_istore (lc' := [(0, _), (1, _), (2, _), (3, _), (4, _)]) 128 dX12_prime_126 rfl (by decide) rfl ?_
      rw [zI_clampN (by omega), et]
      rw [et] at g1 g2 g3
      refine lC c7 c26 hn4 hpp _ 4 0 _ (by omega) (frM_tr A (frM_tr (frM_wI (by decide) (by decide)) (frM_wI (by decide) (by decide)))) ?_ ?_ (fun s hs i hi => ?_)
      · rw [sw_wI_ne (by decide), sw_wI_at, g1]; exact shR_ins _ _
      · rw [sw_wI_at, sw_wI_ne (by decide), g2]; exact shR_ins _ _
      · rw [sw_wI_ne (by decide), sw_wI_ne (by decide), if_neg (by omega)]; exact g3 s hs i hi
    induction j with
    | zero =>
      intro g hj hi A g1 g2 g3
      refine sw_iload_n 82 dX12_prime_81 rfl rfl rfl ?_
      refine sw_if_le 111 85 dX12_prime_82 (by decide) rfl (fun c82 => ?_) (fun c82 => ?_)
      · exact put _ 0 hi A g1 g2 g3
      · exact absurd (Int32.le_refl _) c82
    | succ j ih =>
      intro g hj hi A g1 g2 g3
      have e1 : zI ((j + 1 : Nat) : Int) - zI 1 = zI j := by rw [zI_sub]; congr 1; omega
      have e2 : zI ((j + 1 : Nat) : Int) + zI (-1) = zI j := by rw [zI_add]; congr 1; omega
      have hin := zI_inN (a := j) (n := 5) (by omega) (by decide)
      have hv := (I.1.2 j (by omega)).1
      have hb := hp j (by omega)
      have e3 : g.1 1 j = zI (σ.1.1.2.1 j) := by rw [g1]; unfold shR; rw [if_neg (by omega)]; exact hv
      have le : insAt σ.1.1.2.1 v (j + 1) = if v < σ.1.1.2.1 j then insAt σ.1.1.2.1 v j else j + 1 := rfl
      refine sw_iload_n 82 dX12_prime_81 rfl rfl rfl ?_
      refine sw_if_le 111 85 dX12_prime_82 (by decide) rfl (fun c82 => ?_) (fun c82 => ?_)
      · exact absurd c82 (by rw [z0, zI_le (by omega) (by omega) (by omega) (by omega)]; omega)
      · refine sw_aload_n 86 dX12_prime_85 rfl rfl rfl ?_
        refine sw_getR (b := 1) 89 dX12_prime_86 rfl gf_RX12_9 (fun _ _ _ _ => rfl) ⟨by decide, rfl⟩ rfl ?_
        refine sw_iload_n 90 dX12_prime_89 rfl rfl rfl ?_
        refine sw_iconst (v := zI 1) 91 dX12_prime_90 rfl (by decide) ?_
        refine sw_isub 92 dX12_prime_91 rfl ?_
        rw [e1]
        refine sw_iald 93 dX12_prime_92 rfl ⟨by decide, rfl⟩ (by assumption) ?_
        rw [zI_clampN (by omega), e3]
        refine sw_iload_n 94 dX12_prime_93 rfl rfl rfl ?_
        refine sw_icmp_le 111 97 dX12_prime_94 (by decide) rfl (fun c94 => ?_) (fun c94 => ?_)
        · rw [zI_le (by omega) (by omega) (by omega) (by omega)] at c94
          exact put _ (j + 1) (by rw [← hi, le, if_neg (by omega)]) A g1 g2 g3
        · rw [zI_le (by omega) (by omega) (by omega) (by omega)] at c94
          refine sw_aload_n 98 dX12_prime_97 rfl rfl rfl ?_
          refine sw_iload_n 99 dX12_prime_98 rfl rfl rfl ?_
          refine sw_iconst (v := zI 1) 100 dX12_prime_99 rfl (by decide) ?_
          refine sw_isub 101 dX12_prime_100 rfl ?_
          rw [e1]
          refine sw_iload_n 102 dX12_prime_101 rfl rfl rfl ?_
          refine sw_invVV 105 dX12_prime_102 rfl lk_RX12_99 (m_moves (show j < 4 by omega) (show j + 1 < 4 by omega)) ⟨by decide, rfl⟩ rfl rfl (Nat.le_of_ble_eq_true rfl) (fun h102 hq102 => ?_)
          obtain ⟨B, b1, b2, b3⟩ := hq102
          refine sw_iinc (v := zI (-1)) (lc' := [(0, _), (1, _), (2, _), (3, _)]) 108 dX12_prime_105 rfl (by decide) rfl rfl rfl ?_
          refine sw_goto 81 dX12_prime_108 (by decide) ?_
          rw [e2]
          refine ih _ (by omega) (by rw [← hi, le, if_pos (by omega)]) (frM_tr A B) ?_ ?_ (fun s hs i hi => ?_)
          · rw [b1, g1]; exact shR_step (by omega) _
          · rw [b2, g2]; exact shR_step (by omega) _
          · rw [b3 s hs i hi, g3 s hs i hi, g3 s hs j (by omega)]; exact congrFun (shR_step (i := j) (n := σ.1.1.1) (by omega) (fun j => h.1 3 (4 * s + j))) i
  have lA : prmZ v 2 31 = true → fndZ σ.1.1.2.1 v σ.1.1.1 0 = -1 → ∀ (c j : Nat), j + c = σ.1.1.1 → sw_wp wM X l (d + 1) mX12_prime Qc 35 [(0, .ref 0), (1, .int (zI v)), (2, .int (zI (v * prodZ σ.1.1.2.1 j))), (3, .int (zI j))] [] h := by
    intro c7 c26 c
    have hv : 2 ≤ v ∧ v ≤ 31 := prmZ_in c7
    have hm : prodZ σ.1.1.2.1 σ.1.1.1 * v ≤ 1000 * 31 := Int.mul_le_mul hpr hv.2 (by omega) (by omega)
    have hm0 : 0 ≤ prodZ σ.1.1.2.1 σ.1.1.1 * v := Int.mul_nonneg (by omega) (by omega)
    induction c with
    | zero =>
      intro j hj
      have : j = σ.1.1.1 := by omega
      subst this
      rw [Int.mul_comm v]
      refine sw_iload_n 36 dX12_prime_35 rfl rfl rfl ?_
      refine sw_aload_n 37 dX12_prime_36 rfl rfl rfl ?_
      refine sw_getI 40 dX12_prime_37 rfl gf_RX12_83 rfl ⟨by decide, rfl⟩ ?_
      rw [I.1.1]
      refine sw_icmp_ge 58 43 dX12_prime_40 (by decide) rfl (fun c40 => ?_) (fun c40 => ?_)
      · refine sw_aload_n 59 dX12_prime_58 rfl rfl rfl ?_
        refine sw_getI 62 dX12_prime_59 rfl gf_RX12_83 rfl ⟨by decide, rfl⟩ ?_
        refine sw_iconst (v := zI 4) 63 dX12_prime_62 rfl (by decide) ?_
        rw [I.1.1]
        refine sw_icmp_eq 73 66 dX12_prime_63 (by decide) rfl (fun c63 => ?_) (fun c63 => ?_)
        · subst hQ
          refine sw_bipush (v := zI (-4)) 75 dX12_prime_73 rfl (by decide) ?_
          exact sw_iret dX12_prime_75 rfl (by
  rw [zI_eq (by omega) (by omega) (by omega) (by omega)] at c63
  have e : opPrime σ v = (-4, σ) := by unfold opPrime; rw [if_neg (by rw [c7]; decide), if_neg (by omega), if_pos (by omega)]
  rw [e]; exact ⟨I, rfl⟩)
        · rw [zI_eq (by omega) (by omega) (by omega) (by omega)] at c63
          refine sw_iload_n 67 dX12_prime_66 rfl rfl rfl ?_
          refine sw_sipush (v := zI 1000) 70 dX12_prime_67 rfl (by decide) ?_
          refine sw_icmp_le 76 73 dX12_prime_70 (by decide) rfl (fun c70 => ?_) (fun c70 => ?_)
          · rw [zI_le (by omega) (by omega) (by omega) (by omega)] at c70
            refine sw_aload_n 77 dX12_prime_76 rfl rfl rfl ?_
            refine sw_getI 80 dX12_prime_77 rfl gf_RX12_83 rfl ⟨by decide, rfl⟩ ?_
            rw [I.1.1]
            refine sw_istore_n (lc' := [(0, _), (1, _), (2, _), (3, _)]) 81 dX12_prime_80 rfl rfl (by decide) rfl ?_
            exact lB c7 c26 (by omega) (by omega) _ σ.1.1.1 _ (Nat.le_refl _) rfl frM_rf (by rw [shR_self]) (by rw [shR_self]) (fun s hs i hi => by rw [shR_self])
          · subst hQ
            refine sw_bipush (v := zI (-4)) 75 dX12_prime_73 rfl (by decide) ?_
            exact sw_iret dX12_prime_75 rfl (by
  rw [zI_le (by omega) (by omega) (by omega) (by omega)] at c70
  have e : opPrime σ v = (-4, σ) := by unfold opPrime; rw [if_neg (by rw [c7]; decide), if_neg (by omega), if_pos (by omega)]
  rw [e]; exact ⟨I, rfl⟩)
      · exact absurd (Int32.le_refl _) c40
    | succ c ih =>
      intro j hj
      have hin := zI_inN (a := j) (n := 5) (by omega) (by decide)
      have hvj := (I.1.2 j (by omega)).1
      refine sw_iload_n 36 dX12_prime_35 rfl rfl rfl ?_
      refine sw_aload_n 37 dX12_prime_36 rfl rfl rfl ?_
      refine sw_getI 40 dX12_prime_37 rfl gf_RX12_83 rfl ⟨by decide, rfl⟩ ?_
      rw [I.1.1]
      refine sw_icmp_ge 58 43 dX12_prime_40 (by decide) rfl (fun c40 => ?_) (fun c40 => ?_)
      · exact absurd c40 (by rw [zI_le (by omega) (by omega) (by omega) (by omega)]; omega)
      · refine sw_iload_n 44 dX12_prime_43 rfl rfl rfl ?_
        refine sw_aload_n 45 dX12_prime_44 rfl rfl rfl ?_
        refine sw_getR (b := 1) 48 dX12_prime_45 rfl gf_RX12_9 (fun _ _ _ _ => rfl) ⟨by decide, rfl⟩ rfl ?_
        refine sw_iload_n 49 dX12_prime_48 rfl rfl rfl ?_
        refine sw_iald 50 dX12_prime_49 rfl ⟨by decide, rfl⟩ (by assumption) ?_
        rw [zI_clampN (by omega), hvj]
        refine sw_imul 51 dX12_prime_50 rfl ?_
        refine sw_istore_n (lc' := [(0, _), (1, _), (2, _), (3, _)]) 52 dX12_prime_51 rfl rfl (by decide) rfl ?_
        refine sw_iinc (v := zI 1) (lc' := [(0, _), (1, _), (2, _), (3, _)]) 55 dX12_prime_52 rfl (by decide) rfl rfl rfl ?_
        refine sw_goto 35 dX12_prime_55 (by decide) ?_
        rw [zI_add, zI_mul, Int.mul_assoc]
        exact ih (j + 1) (by omega)
  refine sw_iload_n 1 dX12_prime_0 rfl rfl rfl ?_
  refine sw_iconst (v := zI 2) 2 dX12_prime_1 rfl (by decide) ?_
  refine sw_bipush (v := zI 31) 4 dX12_prime_2 rfl (by decide) ?_
  refine sw_invSI 7 dX12_prime_4 rfl lk_RX12_87 (c_in v1 v2 (by decide) (by decide) (by decide) (by decide)) rfl rfl (Nat.le_of_ble_eq_true rfl) (fun r4 h4 hq4 => ?_)
  obtain ⟨rfl, rfl⟩ := hq4
  refine sw_if_eq 17 10 dX12_prime_7 (by decide) rfl (fun c7 => ?_) (fun c7 => ?_)
  · subst hQ
    refine sw_bipush (v := zI (-2)) 19 dX12_prime_17 rfl (by decide) ?_
    exact sw_iret dX12_prime_19 rfl (by
  rw [ifz_eq] at c7
  have e : opPrime σ v = (-2, σ) := by unfold opPrime; rw [if_pos (by unfold prmZ; rw [decide_eq_false c7, Bool.false_and])]
  rw [e]; exact ⟨I, rfl⟩)
  · rw [ifz_eq, Decidable.not_not] at c7
    refine sw_iload_n 11 dX12_prime_10 rfl rfl rfl ?_
    refine sw_invSI 14 dX12_prime_11 rfl lk_RX12_91 (m_isWhole (by omega) (by omega)) rfl rfl (Nat.le_of_ble_eq_true rfl) (fun r11 h11 hq11 => ?_)
    obtain ⟨rfl, rfl⟩ := hq11
    refine sw_if_ne 20 17 dX12_prime_14 (by decide) rfl (fun c14 => ?_) (fun c14 => ?_)
    · rw [bIz_eq, Bool.not_eq_false] at c14
      have c0 : prmZ v 2 31 = true := by unfold prmZ; rw [decide_eq_true c7, c14]; rfl
      refine sw_aload_n 21 dX12_prime_20 rfl rfl rfl ?_
      refine sw_iload_n 22 dX12_prime_21 rfl rfl rfl ?_
      refine sw_invVI 25 dX12_prime_22 rfl lk_RX12_95 (m_placeOf I.1 (by omega) hp v1 v2) ⟨by decide, rfl⟩ rfl rfl (Nat.le_of_ble_eq_true rfl) (fun r22 h22 hq22 => ?_)
      obtain ⟨rfl, rfl⟩ := hq22
      refine sw_if_lt 31 28 dX12_prime_25 (by decide) rfl (fun c25 => ?_) (fun c25 => ?_)
      · refine sw_iload_n 32 dX12_prime_31 rfl rfl rfl ?_
        refine sw_istore_n (lc' := [(0, _), (1, _), (2, _)]) 33 dX12_prime_32 rfl rfl (by decide) rfl ?_
        refine sw_iconst (v := zI 0) 34 dX12_prime_33 rfl (by decide) ?_
        refine sw_istore_n (lc' := [(0, _), (1, _), (2, _), (3, _)]) 35 dX12_prime_34 rfl rfl (by decide) rfl ?_
        rw [z0, zI_lt (by omega) (by omega) (by omega) (by omega)] at c25
        have g := lA c0 (by omega) σ.1.1.1 0 (by omega)
        rw [show v * prodZ σ.1.1.2.1 0 = v from Int.mul_one v] at g
        exact g
      · rw [z0, zI_lt (by omega) (by omega) (by omega) (by omega)] at c25
        subst hQ
        refine sw_bipush (v := zI (-3)) 30 dX12_prime_28 rfl (by decide) ?_
        exact sw_iret dX12_prime_30 rfl (by
  have e : opPrime σ v = (-3, σ) := by unfold opPrime; rw [if_neg (by rw [c0]; decide), if_pos (by omega)]
  rw [e]; exact ⟨I, rfl⟩)
    · subst hQ
      refine sw_bipush (v := zI (-2)) 19 dX12_prime_17 rfl (by decide) ?_
      exact sw_iret dX12_prime_19 rfl (by
  rw [bIz_eq] at c14
  have e : opPrime σ v = (-2, σ) := by unfold opPrime; rw [if_pos (by unfold prmZ; rw [c14, Bool.and_false])]
  rw [e]; exact ⟨I, rfl⟩)
theorem m_drop (K : okS σ) (I : IM h σ) {i : Int} (i1 : -2147483648 ≤ i) (i2 : i < 2147483648) : sw_ct wM X l (d + 2) mX12_drop [.ref 0, .int (zI i)] h (sw_qI wM X fun r h2 => IM h2 (opDrop σ i).2 ∧ r = zI (opDrop σ i).1) := by
  have hn := K.1.1.1
  refine sw_ct_of (by decide +kernel) (Nat.le_of_ble_eq_true rfl) rfl ?_
  generalize hQ : (sw_qI wM X fun r h2 => IM h2 (opDrop σ i).2 ∧ r = zI (opDrop σ i).1) = Qc
  have loop : ∀ a : Nat, i = (a : Nat) → a < σ.1.1.1 → ∀ (c j : Nat) (g : sw_H), j + c = σ.1.1.1 - 1 → a ≤ j → frM [1, 2, 3] [0] h g → g.1 0 0 = zI (σ.1.1.1 - 1 : Nat) → g.1 1 = rmR a j (h.1 1) → g.1 2 = rmR a j (h.1 2) → (∀ s, s < 4 → ∀ i, i < 4 → g.1 3 (4 * s + i) = rmR a j (fun j => h.1 3 (4 * s + j)) i) → sw_wp wM X l (d + 2) mX12_drop Qc 22 [(0, .ref 0), (1, .int (zI i)), (2, .int (zI j))] [] g := by
    intro a ia ha c
    induction c with
    | zero =>
      intro j g hj haj A g0 g1 g2 g3
      have : j = σ.1.1.1 - 1 := by omega
      subst this
      subst hQ
      refine sw_iload_n 23 dX12_drop_22 rfl rfl rfl ?_
      refine sw_aload_n 24 dX12_drop_23 rfl rfl rfl ?_
      refine sw_getI 27 dX12_drop_24 rfl gf_RX12_83 rfl ⟨by decide, rfl⟩ ?_
      rw [g0]
      refine sw_icmp_ge 44 30 dX12_drop_27 (by decide) rfl (fun c27 => ?_) (fun c27 => ?_)
      · refine sw_aload_n 45 dX12_drop_44 rfl rfl rfl ?_
        refine sw_getI 48 dX12_drop_45 rfl gf_RX12_83 rfl ⟨by decide, rfl⟩ ?_
        exact sw_iret dX12_drop_48 rfl (by
  unfold opDrop; rw [ia, if_pos ⟨by omega, by omega⟩, Int.toNat_natCast]
  have rmap : ∀ {f : Nat → Int32} {q : Nat → Int}, (∀ i, i < σ.1.1.1 → f i = zI (q i)) → ∀ i, i < σ.1.1.1 - 1 → rmR a (σ.1.1.1 - 1) f i = zI (rmR a (σ.1.1.1 - 1) q i) := by
    intro f q hf i hi
    unfold rmR
    by_cases c : a ≤ i ∧ i < σ.1.1.1 - 1
    · rw [if_pos c, if_pos c]; exact hf _ (by omega)
    · rw [if_neg c, if_neg c]; exact hf _ (by omega)
  refine ⟨frM_I A I rfl (by decide) (by decide) ⟨g0, fun i hi => ?_⟩ (fun s hs => ⟨by rw [A.1 4 (by decide) (by decide)]; exact (I.2.1 s hs).1, fun i hi => ?_⟩) ⟨by rw [A.2.2 5 (by decide)]; exact I.2.2.1.1, fun i hi => by rw [A.1 5 (by decide) (by decide)]; exact I.2.2.1.2 i hi⟩, g0⟩
  · rw [g1, g2]; exact ⟨rmap (fun j hj => (I.1.2 j hj).1) i hi, rmap (fun j hj => (I.1.2 j hj).2) i hi⟩
  · have hi : i < σ.1.1.1 - 1 := hi
    rw [g3 s hs i (by omega), rmap (I.2.1 s hs).2 i hi]
    congr 1
    show rmR a (σ.1.1.1 - 1) (σ.1.2.1.2 s) i = va_up (rmR a 3 (σ.1.2.1.2 s)) 3 0 i
    unfold va_up
    rw [if_neg (by omega)]
    by_cases c : i < a
    · rw [rmR_lt c, rmR_lt c]
    · rw [rmR_ge (by omega) hi, rmR_ge (by omega) (by omega)])
      · exact absurd (Int32.le_refl _) c27
    | succ c ih =>
      intro j g hj haj A g0 g1 g2 g3
      have e1 : zI j + zI 1 = zI ((j + 1 : Nat) : Int) := by rw [zI_add]; rfl
      refine sw_iload_n 23 dX12_drop_22 rfl rfl rfl ?_
      refine sw_aload_n 24 dX12_drop_23 rfl rfl rfl ?_
      refine sw_getI 27 dX12_drop_24 rfl gf_RX12_83 rfl ⟨by decide, rfl⟩ ?_
      rw [g0]
      refine sw_icmp_ge 44 30 dX12_drop_27 (by decide) rfl (fun c27 => ?_) (fun c27 => ?_)
      · exact absurd c27 (by rw [zI_le (by omega) (by omega) (by omega) (by omega)]; omega)
      · refine sw_aload_n 31 dX12_drop_30 rfl rfl rfl ?_
        refine sw_iload_n 32 dX12_drop_31 rfl rfl rfl ?_
        refine sw_iconst (v := zI 1) 33 dX12_drop_32 rfl (by decide) ?_
        refine sw_iadd 34 dX12_drop_33 rfl ?_
        rw [e1]
        refine sw_iload_n 35 dX12_drop_34 rfl rfl rfl ?_
        refine sw_invVV 38 dX12_drop_35 rfl lk_RX12_99 (m_moves (show j + 1 < 4 by omega) (show j < 4 by omega)) ⟨by decide, rfl⟩ rfl rfl (Nat.le_of_ble_eq_true rfl) (fun h35 hq35 => ?_)
        obtain ⟨B, b1, b2, b3⟩ := hq35
        refine sw_iinc (v := zI 1) (lc' := [(0, _), (1, _), (2, _)]) 41 dX12_drop_38 rfl (by decide) rfl rfl rfl ?_
        refine sw_goto 22 dX12_drop_41 (by decide) ?_
        rw [zI_add]
        refine ih (j + 1) _ (by omega) (by omega) (frM_tr A (frM_sub B (by decide) (by decide))) (by rw [B.2.2 0 (by decide)]; exact g0) ?_ ?_ (fun s hs i hi => ?_)
        · rw [b1, g1]; exact rmR_step haj _
        · rw [b2, g2]; exact rmR_step haj _
        · rw [b3 s hs i hi, g3 s hs i hi, g3 s hs (j + 1) (by omega)]; exact congrFun (rmR_step haj (fun j => h.1 3 (4 * s + j))) i
  refine sw_aload_n 1 dX12_drop_0 rfl rfl rfl ?_
  refine sw_iload_n 2 dX12_drop_1 rfl rfl rfl ?_
  refine sw_invVI 5 dX12_drop_2 rfl lk_RX12_106 (m_isPrime I.1.1 (by omega) i1 i2) ⟨by decide, rfl⟩ rfl rfl (Nat.le_of_ble_eq_true rfl) (fun r2 h2 hq2 => ?_)
  obtain ⟨rfl, rfl⟩ := hq2
  refine sw_if_ne 10 8 dX12_drop_5 (by decide) rfl (fun c5 => ?_) (fun c5 => ?_)
  · refine sw_aload_n 11 dX12_drop_10 rfl rfl rfl ?_
    refine sw_dup 12 dX12_drop_11 rfl rfl ?_
    refine sw_getI 15 dX12_drop_12 rfl gf_RX12_83 rfl ⟨by decide, rfl⟩ ?_
    rw [I.1.1]
    refine sw_iconst (v := zI 1) 16 dX12_drop_15 rfl (by decide) ?_
    refine sw_isub 17 dX12_drop_16 rfl ?_
    rw [zI_sub]
    refine sw_putI 20 dX12_drop_17 rfl pf_RX12_83 rfl ⟨by decide, rfl⟩ ?_
    refine sw_iload_n 21 dX12_drop_20 rfl rfl rfl ?_
    refine sw_istore_n (lc' := [(0, _), (1, _), (2, _)]) 22 dX12_drop_21 rfl rfl (by decide) rfl ?_
    rw [ifz_eq, Decidable.not_not] at c5
    obtain ⟨a, ha⟩ := Int.eq_ofNat_of_zero_le c5.1
    have e0 : ((σ.1.1.1 : Nat) : Int) - 1 = ((σ.1.1.1 - 1 : Nat) : Int) := by omega
    rw [e0]
    have g := loop a ha (by omega) (σ.1.1.1 - 1 - a) a (sw_wI h2 0 0 (zI (σ.1.1.1 - 1 : Nat))) (by omega) (Nat.le_refl _) (frM_w0 (by decide)) (by rw [sw_wI_at]; simp [va_up]) (by rw [sw_wI_ne (by decide), rmR_self]) (by rw [sw_wI_ne (by decide), rmR_self]) (fun s hs i hi => by rw [sw_wI_ne (by decide), rmR_self])
    rw [← ha] at g
    exact g
  · rw [ifz_eq] at c5
    subst hQ
    refine sw_iconst (v := zI (-1)) 9 dX12_drop_8 rfl (by decide) ?_
    exact sw_iret dX12_drop_9 rfl (by unfold opDrop; rw [if_neg c5]; exact ⟨I, rfl⟩)
theorem m_isSieve {w : sw_W} {v : Int} (v1 : -2147483648 ≤ v) (v2 : v < 2147483648) : sw_ct w X l (d + 1) mX12_isSieve [.int (zI v)] h (sw_qI w X fun r h2 => h2 = h ∧ r = bI (prmZ v 3 97)) := by
  refine sw_ct_of (by decide +kernel) (Nat.le_of_ble_eq_true rfl) rfl ?_
  refine sw_iload_n 1 dX12_isSieve_0 rfl rfl rfl ?_
  refine sw_iconst (v := zI 3) 2 dX12_isSieve_1 rfl (by decide) ?_
  refine sw_bipush (v := zI 97) 4 dX12_isSieve_2 rfl (by decide) ?_
  refine sw_invSI 7 dX12_isSieve_4 rfl lk_RX12_87 (c_in v1 v2 (by decide) (by decide) (by decide) (by decide)) rfl rfl (Nat.le_of_ble_eq_true rfl) (fun r4 h4 hq4 => ?_)
  obtain ⟨rfl, rfl⟩ := hq4
  refine sw_if_eq 21 10 dX12_isSieve_7 (by decide) rfl (fun c7 => ?_) (fun c7 => ?_)
  · refine sw_iconst (v := zI 0) 22 dX12_isSieve_21 rfl (by decide) ?_
    exact sw_zret (by first | exact Or.inl rfl | exact Or.inr rfl | assumption) dX12_isSieve_22 rfl (⟨rfl, by
  rw [ifz_eq] at c7
  unfold prmZ; rw [decide_eq_false c7, Bool.false_and]; rfl⟩)
  · rw [ifz_eq, Decidable.not_not] at c7
    refine sw_iload_n 11 dX12_isSieve_10 rfl rfl rfl ?_
    refine sw_invSI 14 dX12_isSieve_11 rfl lk_RX12_91 (m_isWhole (by omega) (by omega)) rfl rfl (Nat.le_of_ble_eq_true rfl) (fun r11 h11 hq11 => ?_)
    obtain ⟨rfl, rfl⟩ := hq11
    refine sw_if_eq 21 17 dX12_isSieve_14 (by decide) rfl (fun c14 => ?_) (fun c14 => ?_)
    · refine sw_iconst (v := zI 0) 22 dX12_isSieve_21 rfl (by decide) ?_
      exact sw_zret (by first | exact Or.inl rfl | exact Or.inr rfl | assumption) dX12_isSieve_22 rfl (⟨rfl, by
  rw [bIz_eq] at c14
  unfold prmZ; rw [c14, Bool.and_false]; rfl⟩)
    · refine sw_iconst (v := zI 1) 18 dX12_isSieve_17 rfl (by decide) ?_
      refine sw_goto 22 dX12_isSieve_18 (by decide) ?_
      exact sw_zret (by first | exact Or.inl rfl | exact Or.inr rfl | assumption) dX12_isSieve_22 rfl (⟨rfl, by
  rw [bIz_eq, Bool.not_eq_false] at c14
  unfold prmZ; rw [decide_eq_true c7, c14]; rfl⟩)
theorem fndZ_0 {q : Nat → Int} {m : Nat} : fndZ q (q 0) (m + 1) 0 = 0 := by unfold fndZ; rw [if_pos rfl]; rfl
theorem m_sieve (K : okS σ) (I : IM h σ) {v : Int} (v1 : -2147483648 ≤ v) (v2 : v < 2147483648) : sw_ct wM X l (d + 2) mX12_sieve [.ref 0, .int (zI v)] h (sw_qI wM X fun r h2 => IM h2 (opSieve σ v).2 ∧ r = zI (opSieve σ v).1) := by
  have hn := K.1.1.1
  have kq := K.1.2.2
  have hp : ∀ i, i < σ.1.1.1 → 2 ≤ σ.1.1.2.1 i ∧ σ.1.1.2.1 i ≤ 31 := fun i hi => kB_2 K hi
  have fr := fndZ_in σ.1.1.2.1 v σ.1.1.1 0
  have okr := okV_rm (n := σ.1.1.1) (p := σ.1.1.2.1) (k := σ.1.2.2.1) (q := σ.1.2.2.2) kq v
  have eask : askS σ.1.2.2.1 σ.1.2.2.2 v = pushS (capS (rmS σ.1.2.2.1 σ.1.2.2.2 (fndZ σ.1.2.2.2 v σ.1.2.2.1 0))) v := rfl
  refine sw_ct_of (by decide +kernel) (Nat.le_of_ble_eq_true rfl) rfl ?_
  refine sw_iload_n 1 dX12_sieve_0 rfl rfl rfl ?_
  refine sw_invSI 4 dX12_sieve_1 rfl lk_RX12_210 (m_isSieve v1 v2) rfl rfl (Nat.le_of_ble_eq_true rfl) (fun r1 h1 hq1 => ?_)
  obtain ⟨rfl, rfl⟩ := hq1
  refine sw_if_ne 10 7 dX12_sieve_4 (by decide) rfl (fun c4 => ?_) (fun c4 => ?_)
  · rw [bIz_eq, Bool.not_eq_false] at c4
    refine sw_aload_n 11 dX12_sieve_10 rfl rfl rfl ?_
    refine sw_iload_n 12 dX12_sieve_11 rfl rfl rfl ?_
    refine sw_invVI 15 dX12_sieve_12 rfl lk_RX12_95 (m_placeOf I.1 (by omega) hp v1 v2) ⟨by decide, rfl⟩ rfl rfl (Nat.le_of_ble_eq_true rfl) (fun r12 h12 hq12 => ?_)
    obtain ⟨rfl, rfl⟩ := hq12
    refine sw_if_lt 21 18 dX12_sieve_15 (by decide) rfl (fun c15 => ?_) (fun c15 => ?_)
    · rw [z0, zI_lt (by omega) (by omega) (by omega) (by omega)] at c15
      have hv := prmZ_in c4
      have ef : faultZ σ v = 1 := by unfold faultZ; rw [if_neg (by rw [c4]; decide), if_pos (by omega)]
      refine sw_aload_n 22 dX12_sieve_21 rfl rfl rfl ?_
      refine sw_iload_n 23 dX12_sieve_22 rfl rfl rfl ?_
      refine sw_invVI 26 dX12_sieve_23 rfl lk_RX12_103 (m_forgets (k := σ.1.2.2.1) (q := σ.1.2.2.2) I.2.2.1 (by have := kq.1; omega) (fun i hi => by have := (kq.2.1 i hi).2; omega) kq.2.2 v1 v2) ⟨by decide, rfl⟩ rfl rfl (Nat.le_of_ble_eq_true rfl) (fun r23 h23 hq23 => ?_)
      obtain ⟨A, hS, -⟩ := hq23
      clear fr
      generalize rmS σ.1.2.2.1 σ.1.2.2.2 (fndZ σ.1.2.2.2 v σ.1.2.2.1 0) = z at hS okr eask
      have hz4 := okr.1.1
      have hin := zI_inN (a := z.1) (n := 5) (by omega) (by decide)
      refine sw_istore_n (lc' := [(0, _), (1, _), (2, _)]) 27 dX12_sieve_26 rfl rfl (by decide) rfl ?_
      refine sw_aload_n 28 dX12_sieve_27 rfl rfl rfl ?_
      refine sw_getR (b := 5) 31 dX12_sieve_28 rfl gf_RX12_24 (fun _ _ _ _ => rfl) ⟨by decide, rfl⟩ rfl ?_
      refine sw_aload_n 32 dX12_sieve_31 rfl rfl rfl ?_
      refine sw_getI 35 dX12_sieve_32 rfl gf_RX12_207 rfl ⟨by decide, rfl⟩ ?_
      refine sw_iload_n 36 dX12_sieve_35 rfl rfl rfl ?_
      refine sw_iast 37 dX12_sieve_36 rfl ⟨by decide, rfl⟩ (by rw [hS.1]; exact hin) ?_
      rw [hS.1, zI_clampN (by omega)]
      refine sw_aload_n 38 dX12_sieve_37 rfl rfl rfl ?_
      refine sw_dup 39 dX12_sieve_38 rfl rfl ?_
      refine sw_getI 42 dX12_sieve_39 rfl gf_RX12_207 rfl ⟨by decide, rfl⟩ ?_
      rw [sw_wI_ne (by decide), hS.1]
      refine sw_iconst (v := zI 1) 43 dX12_sieve_42 rfl (by decide) ?_
      refine sw_iadd 44 dX12_sieve_43 rfl ?_
      rw [zI_add]
      have e5 : (sw_wI (sw_wI h23 5 z.1 (zI v)) 0 5 (zI (z.1 + 1))).1 0 5 = zI ((z.1 + 1 : Nat) : Int) := by rw [sw_wI_at]; simp [va_up]
      have A2 : frM [5] [5] h12 (sw_wI (sw_wI h23 5 z.1 (zI v)) 0 5 (zI (z.1 + 1))) := frM_tr A (frM_tr (frM_wI (by decide) (by decide)) (frM_w0 (by decide)))
      have hS2 : imS (sw_wI (sw_wI h23 5 z.1 (zI v)) 0 5 (zI (z.1 + 1))) (z.1 + 1, fun i => if i = z.1 then v else z.2 i) := by
        refine ⟨e5, fun i hi => ?_⟩
        have hi : i < z.1 + 1 := hi
        rw [sw_wI_ne (by decide), sw_wI_at]
        show va_up (h23.1 5) z.1 (zI v) i = zI (if i = z.1 then v else z.2 i)
        unfold va_up
        by_cases e : i = z.1
        · rw [if_pos e, if_pos e]
        · rw [if_neg e, if_neg e]; exact hS.2 i (by omega)
      refine sw_putI 47 dX12_sieve_44 rfl pf_RX12_207 rfl ⟨by decide, rfl⟩ ?_
      generalize sw_wI (sw_wI h23 5 z.1 (zI v)) 0 5 (zI (z.1 + 1)) = g at e5 A2 hS2 ⊢
      refine sw_aload_n 48 dX12_sieve_47 rfl rfl rfl ?_
      refine sw_getI 51 dX12_sieve_48 rfl gf_RX12_207 rfl ⟨by decide, rfl⟩ ?_
      refine sw_iconst (v := zI 4) 52 dX12_sieve_51 rfl (by decide) ?_
      rw [e5]
      refine sw_icmp_le 66 55 dX12_sieve_52 (by decide) rfl (fun c52 => ?_) (fun c52 => ?_)
      · refine sw_aload_n 67 dX12_sieve_66 rfl rfl rfl ?_
        refine sw_getI 70 dX12_sieve_67 rfl gf_RX12_207 rfl ⟨by decide, rfl⟩ ?_
        exact sw_iret dX12_sieve_70 rfl (by
  rw [zI_le (by omega) (by omega) (by omega) (by omega)] at c52
  unfold opSieve; rw [if_pos ef, eask]
  have e1 : capS z = z := by unfold capS; rw [if_neg (by omega)]
  rw [e1]
  refine ⟨frM_I A2 I rfl (by decide) (by decide) (imB_fr I.1 A2 (by decide) (by decide) (by decide)) (fun s hs => by rw [A2.1 4 (by decide) (by decide), A2.1 3 (by decide) (by decide)]; exact I.2.1 s hs) hS2, ?_⟩
  exact hS2.1)
      · rw [zI_le (by omega) (by omega) (by omega) (by omega)] at c52
        have z4 : z.1 = 4 := by omega
        have q0 : g.1 5 0 = zI (z.2 0) := by rw [hS2.2 0 (by show 0 < z.1 + 1; omega)]; show zI (if 0 = z.1 then v else z.2 0) = _; rw [if_neg (by omega)]
        have b0 := okr.1.2.1 0 (by omega)
        refine sw_aload_n 56 dX12_sieve_55 rfl rfl rfl ?_
        refine sw_aload_n 57 dX12_sieve_56 rfl rfl rfl ?_
        refine sw_getR (b := 5) 60 dX12_sieve_57 rfl gf_RX12_24 (fun _ _ _ _ => rfl) ⟨by decide, rfl⟩ rfl ?_
        refine sw_iconst (v := zI 0) 61 dX12_sieve_60 rfl (by decide) ?_
        refine sw_iald 62 dX12_sieve_61 rfl ⟨by decide, rfl⟩ (by exact zI_inN (a := 0) (n := 5) (by decide) (by decide)) ?_
        rw [show g.1 5 (zI 0).toNatClampNeg = zI (z.2 0) from q0]
        refine sw_invVI 65 dX12_sieve_62 rfl lk_RX12_103 (m_forgets (k := z.1 + 1) (q := fun i => if i = z.1 then v else z.2 i) hS2 (by omega) (fun i hi => by
  show 2 ≤ (if i = z.1 then v else z.2 i) ∧ (if i = z.1 then v else z.2 i) ≤ 97
  by_cases e : i = z.1
  · rw [if_pos e]; omega
  · rw [if_neg e]; have := okr.1.2.1 i (by omega); omega) (fun i j hij hj => by
  show (if i = z.1 then v else z.2 i) ≠ (if j = z.1 then v else z.2 j)
  rw [if_neg (by omega)]
  by_cases e : j = z.1
  · rw [if_pos e]; exact okr.2 i (by omega)
  · rw [if_neg e]; exact okr.1.2.2 i j hij (by omega)) (by omega) (by omega)) ⟨by decide, rfl⟩ rfl rfl (Nat.le_of_ble_eq_true rfl) (fun r62 h62 hq62 => ?_)
        obtain ⟨B, hS3, -⟩ := hq62
        refine sw_istore_n (lc' := [(0, _), (1, _), (2, _), (3, _)]) 66 dX12_sieve_65 rfl rfl (by decide) rfl ?_
        refine sw_aload_n 67 dX12_sieve_66 rfl rfl rfl ?_
        refine sw_getI 70 dX12_sieve_67 rfl gf_RX12_207 rfl ⟨by decide, rfl⟩ ?_
        exact sw_iret dX12_sieve_70 rfl (by
  unfold opSieve; rw [if_pos ef, eask]
  have e0 : fndZ (fun i => if i = z.1 then v else z.2 i) (z.2 0) (z.1 + 1) 0 = 0 := by
    have := fndZ_0 (q := fun i => if i = z.1 then v else z.2 i) (m := z.1)
    rw [if_neg (show ¬ 0 = z.1 by omega)] at this
    exact this
  rw [e0] at hS3
  have e1 : capS z = (z.1 - 1, delF 0 z.2) := by unfold capS; rw [if_pos (by omega)]
  rw [e1]
  have h5 : h62.1 0 5 = zI ((z.1 : Nat) : Int) := hS3.1
  have hS4 : imS h62 (pushS (z.1 - 1, delF 0 z.2) v) := by
    refine ⟨?_, fun i hi => ?_⟩
    · show h62.1 0 5 = zI ((z.1 - 1 + 1 : Nat) : Int); rw [h5]; congr 1; omega
    · have hi : i < z.1 - 1 + 1 := hi
      have := hS3.2 i (show i < z.1 by omega)
      rw [this]
      show zI (delF 0 (fun i => if i = z.1 then v else z.2 i) i) = zI (if i = z.1 - 1 then v else delF 0 z.2 i)
      have dA : delF 0 (fun i => if i = z.1 then v else z.2 i) i = (if i + 1 = z.1 then v else z.2 (i + 1)) := by unfold delF; rw [if_pos (Nat.zero_le i)]
      have dB : delF 0 z.2 i = z.2 (i + 1) := by unfold delF; rw [if_pos (Nat.zero_le i)]
      rw [dA, dB]
      by_cases e : i = z.1 - 1
      · rw [if_pos e, if_pos (show i + 1 = z.1 by omega)]
      · rw [if_neg e, if_neg (show ¬ i + 1 = z.1 by omega)]
  refine ⟨frM_I (frM_tr A2 B) I rfl (by decide) (by decide) (imB_fr I.1 (frM_tr A2 B) (by decide) (by decide) (by decide)) (fun s hs => by rw [(frM_tr A2 B).1 4 (by decide) (by decide), (frM_tr A2 B).1 3 (by decide) (by decide)]; exact I.2.1 s hs) hS4, ?_⟩
  exact hS4.1)
    · rw [z0, zI_lt (by omega) (by omega) (by omega) (by omega)] at c15
      refine sw_bipush (v := zI (-3)) 20 dX12_sieve_18 rfl (by decide) ?_
      exact sw_iret dX12_sieve_20 rfl (by
  have ef : faultZ σ v = -3 := by unfold faultZ; rw [if_neg (by rw [c4]; decide), if_neg (by omega)]
  have e : opSieve σ v = (-3, σ) := by unfold opSieve; rw [ef]; rfl
  rw [e]; exact ⟨I, rfl⟩)
  · rw [bIz_eq] at c4
    refine sw_bipush (v := zI (-2)) 9 dX12_sieve_7 rfl (by decide) ?_
    exact sw_iret dX12_sieve_9 rfl (by
  have ef : faultZ σ v = -2 := by unfold faultZ; rw [if_pos c4]
  have e : opSieve σ v = (-2, σ) := by unfold opSieve; rw [ef]; rfl
  rw [e]; exact ⟨I, rfl⟩)
theorem m_sieveOf (K : okS σ) (I : IM h σ) {i : Int} (i1 : -2147483648 ≤ i) (i2 : i < 2147483648) : sw_ct wM X l (d + 1) mX12_sieveOf [.ref 0, .int (zI i)] h (sw_qI wM X fun r h2 => IM h2 σ ∧ r = zI (opSieveOf σ i)) := by
  have kq := K.1.2.2.1
  refine sw_ct_of (by decide +kernel) (Nat.le_of_ble_eq_true rfl) rfl ?_
  refine sw_iload_n 1 dX12_sieveOf_0 rfl rfl rfl ?_
  refine sw_iconst (v := zI 0) 2 dX12_sieveOf_1 rfl (by decide) ?_
  refine sw_aload_n 3 dX12_sieveOf_2 rfl rfl rfl ?_
  refine sw_getI 6 dX12_sieveOf_3 rfl gf_RX12_207 rfl ⟨by decide, rfl⟩ ?_
  rw [I.2.2.1.1]
  refine sw_iconst (v := zI 1) 7 dX12_sieveOf_6 rfl (by decide) ?_
  refine sw_isub 8 dX12_sieveOf_7 rfl ?_
  rw [zI_sub]
  refine sw_invSI 11 dX12_sieveOf_8 rfl lk_RX12_87 (c_in i1 i2 (by decide) (by decide) (by omega) (by omega)) rfl rfl (Nat.le_of_ble_eq_true rfl) (fun r8 h8 hq8 => ?_)
  obtain ⟨rfl, rfl⟩ := hq8
  refine sw_if_eq 23 14 dX12_sieveOf_11 (by decide) rfl (fun c11 => ?_) (fun c11 => ?_)
  · refine sw_iconst (v := zI (-1)) 24 dX12_sieveOf_23 rfl (by decide) ?_
    exact sw_iret dX12_sieveOf_24 rfl (⟨I, by rw [ifz_eq] at c11; unfold opSieveOf; rw [if_neg (by omega)]⟩)
  · rw [ifz_eq, Decidable.not_not] at c11
    refine sw_aload_n 15 dX12_sieveOf_14 rfl rfl rfl ?_
    refine sw_getR (b := 5) 18 dX12_sieveOf_15 rfl gf_RX12_24 (fun _ _ _ _ => rfl) ⟨by decide, rfl⟩ rfl ?_
    refine sw_iload_n 19 dX12_sieveOf_18 rfl rfl rfl ?_
    refine sw_iald 20 dX12_sieveOf_19 rfl ⟨by decide, rfl⟩ (zI_in c11.1 (by omega) (by decide)) ?_
    refine sw_goto 24 dX12_sieveOf_20 (by decide) ?_
    exact sw_iret dX12_sieveOf_24 rfl (⟨I, by rw [zI_clamp (by omega) (by omega), I.2.2.1.2 i.toNat (by omega)]; unfold opSieveOf; rw [if_pos (by omega)]⟩)
theorem m_forget (K : okS σ) (I : IM h σ) {v : Int} (v1 : -2147483648 ≤ v) (v2 : v < 2147483648) : sw_ct wM X l (d + 1) mX12_forget [.ref 0, .int (zI v)] h (sw_qI wM X fun r h2 => IM h2 (opForget σ v).2 ∧ r = zI (opForget σ v).1) := by
  have kq := K.1.2.2
  refine sw_ct_of (by decide +kernel) (Nat.le_of_ble_eq_true rfl) rfl ?_
  refine sw_aload_n 1 dX12_forget_0 rfl rfl rfl ?_
  refine sw_iload_n 2 dX12_forget_1 rfl rfl rfl ?_
  refine sw_invVI 5 dX12_forget_2 rfl lk_RX12_103 (m_forgets (k := σ.1.2.2.1) (q := σ.1.2.2.2) I.2.2.1 (by have := kq.1; omega) (fun i hi => by have := (kq.2.1 i hi).2; omega) kq.2.2 v1 v2) ⟨by decide, rfl⟩ rfl rfl (Nat.le_of_ble_eq_true rfl) (fun r2 h2 hq2 => ?_)
  obtain ⟨A, hS, rfl⟩ := hq2
  have B := imB_fr I.1 A (by decide) (by decide) (by decide)
  have U : imU h2 σ.1.1.1 σ.1.2.1.1 σ.1.2.1.2 := fun s hs => by rw [A.1 4 (by decide) (by decide), A.1 3 (by decide) (by decide)]; exact I.2.1 s hs
  refine sw_if_le 15 8 dX12_forget_5 (by decide) rfl (fun c5 => ?_) (fun c5 => ?_)
  · refine sw_iconst (v := zI (-1)) 16 dX12_forget_15 rfl (by decide) ?_
    exact sw_iret dX12_forget_16 rfl (by
  by_cases c : fndZ σ.1.2.2.2 v σ.1.2.2.1 0 = -1
  · unfold opForget; rw [if_pos c]
    unfold rmS at hS; rw [if_pos c] at hS
    exact ⟨frM_I A I rfl (by decide) (by decide) B U hS, rfl⟩
  · rw [if_neg c] at c5; exact absurd c5 (by decide))
  · refine sw_aload_n 9 dX12_forget_8 rfl rfl rfl ?_
    refine sw_getI 12 dX12_forget_9 rfl gf_RX12_207 rfl ⟨by decide, rfl⟩ ?_
    refine sw_goto 16 dX12_forget_12 (by decide) ?_
    exact sw_iret dX12_forget_16 rfl (by
  by_cases c : fndZ σ.1.2.2.2 v σ.1.2.2.1 0 = -1
  · rw [if_pos c] at c5; exact absurd (Int32.le_refl _) c5
  · unfold opForget; rw [if_neg c]
    exact ⟨frM_I A I rfl (by decide) (by decide) B U hS, hS.1⟩)
end sw_m3
