/-! ANSWERS: insertion, groups, spread -/
def insT (T : TbZ) (a b g : Int) : TbZ := if 264 ≤ T.1 ∨ (plT T a b T.1 < T.1 ∧ T.2.1 (plT T a b T.1) = a ∧ T.2.2.1 (plT T a b T.1) = b) then T else (T.1 + 1, insR (plT T a b T.1) T.1 a T.2.1, insR (plT T a b T.1) T.1 b T.2.2.1, insR (plT T a b T.1) T.1 g T.2.2.2)
theorem insR_lt {α : Type} {t n i : Nat} {v : α} {f : Nat → α} (h : i < t) : insR t n v f i = f i := by unfold insR; rw [if_pos h]
theorem insR_eq {α : Type} {t n : Nat} {v : α} {f : Nat → α} : insR t n v f t = v := by unfold insR; rw [if_neg (by omega), if_pos rfl]
theorem insR_gt {α : Type} {t n i : Nat} {v : α} {f : Nat → α} (h : t < i) (hi : i ≤ n) : insR t n v f i = f (i - 1) := by unfold insR; rw [if_neg (by omega), if_neg (by omega), if_pos hi]
theorem insT_srt {T : TbZ} {a b g : Int} (hs : srtZ T) : srtZ (insT T a b g) := by
  unfold insT
  split
  · exact hs
  · rename_i hc
    have hle := plT_le T a b T.1
    have hin := plT_in (a := a) (b := b) hs T.1 (Nat.le_refl _)
    generalize hg : plT T a b T.1 = t at *
    have lo : ∀ i, i < t → kLt (T.2.1 i) (T.2.2.1 i) a b := fun i hi => kLtB_iff.mp ((hin i (by omega)).mpr hi)
    have up : ∀ i, t ≤ i → i < T.1 → kLt a b (T.2.1 i) (T.2.2.1 i) := by
      intro i h1 h2
      have n1 : ¬ kLt (T.2.1 i) (T.2.2.1 i) a b := fun q => by have := (hin i h2).mp (kLtB_iff.mpr q); omega
      by_cases e : i = t
      · subst e
        have : ¬ (T.2.1 i = a ∧ T.2.2.1 i = b) := fun q => hc (Or.inr ⟨h2, q⟩)
        unfold kLt at *; omega
      · have n2 : ¬ kLt (T.2.1 t) (T.2.2.1 t) a b := fun q => by have := (hin t (by omega)).mp (kLtB_iff.mpr q); omega
        have := hs t i (by omega) h2
        unfold kLt at *; omega
    intro i j hij hj
    have hj : j < T.1 + 1 := hj
    show kLt (insR t T.1 a T.2.1 i) (insR t T.1 b T.2.2.1 i) (insR t T.1 a T.2.1 j) (insR t T.1 b T.2.2.1 j)
    rcases Nat.lt_trichotomy i t with h1 | h1 | h1
    · rw [insR_lt h1, insR_lt h1]
      rcases Nat.lt_trichotomy j t with h2 | h2 | h2
      · rw [insR_lt h2, insR_lt h2]; exact hs i j hij (by omega)
      · subst h2; rw [insR_eq, insR_eq]; exact lo i h1
      · rw [insR_gt h2 (by omega), insR_gt h2 (by omega)]; exact hs i (j - 1) (by omega) (by omega)
    · subst h1; rw [insR_eq, insR_eq, insR_gt hij (by omega), insR_gt hij (by omega)]; exact up (j - 1) (by omega) (by omega)
    · rw [insR_gt h1 (by omega), insR_gt h1 (by omega), insR_gt (by omega) (by omega), insR_gt (by omega) (by omega)]; exact hs (i - 1) (j - 1) (by omega) (by omega)
theorem insR_map {α β : Type} {t n i : Nat} {v : α} {f : Nat → α} {v' : β} {f' : Nat → β} (R : α → β → Prop) (hv : R v v') (hf : ∀ i, i < n → R (f i) (f' i)) (ht : t ≤ n) (hi : i < n + 1) : R (insR t n v f i) (insR t n v' f' i) := by
  rcases Nat.lt_trichotomy i t with h1 | h1 | h1
  · rw [insR_lt h1, insR_lt h1]; exact hf i (by omega)
  · subst h1; rw [insR_eq, insR_eq]; exact hv
  · rw [insR_gt h1 (by omega), insR_gt h1 (by omega)]; exact hf _ (by omega)
theorem insR_all {α : Type} {t n i : Nat} {v : α} {f : Nat → α} (P : α → Prop) (hv : P v) (hf : ∀ i, i < n → P (f i)) (ht : t ≤ n) (hi : i < n + 1) : P (insR t n v f i) := by
  rcases Nat.lt_trichotomy i t with h1 | h1 | h1
  · rw [insR_lt h1]; exact hf i (by omega)
  · subst h1; rw [insR_eq]; exact hv
  · rw [insR_gt h1 (by omega)]; exact hf _ (by omega)
theorem cpy_ins {α : Type} {t n : Nat} (ht : t ≤ n) (v : α) (f : Nat → α) : va_up (va_cpy f f t (t + 1) (n - t)) t v = insR t n v f := by
  funext i
  unfold va_up va_cpy insR
  by_cases e : i = t
  · subst e; rw [if_pos rfl, if_neg (by omega), if_pos rfl]
  · rw [if_neg e]
    by_cases h1 : i < t
    · rw [if_neg (by omega), if_pos h1]
    · rw [if_neg h1, if_neg e]
      by_cases h2 : i ≤ n
      · rw [if_pos (by omega), if_pos h2]; congr 1; omega
      · rw [if_neg (by omega), if_neg h2]
theorem insT_ok {T : TbZ} {a b g : Int} (h : okT T) (a1 : a.natAbs < 4611686018427387904) (b1 : 0 < b) (b2 : b < 4611686018427387904) : okT (insT T a b g) := by
  unfold insT
  split
  · exact h
  · rename_i hc
    have hle := plT_le T a b T.1
    have hN : ¬ 264 ≤ T.1 := fun q => hc (Or.inl q)
    refine ⟨by show T.1 + 1 ≤ 264; omega, fun i hi => ?_⟩
    have hi : i < T.1 + 1 := hi
    exact ⟨insR_all (fun z : Int => z.natAbs < 4611686018427387904) a1 (fun j hj => (h.2 j hj).1) hle hi, insR_all (fun z : Int => 0 < z) b1 (fun j hj => (h.2 j hj).2.1) hle hi, insR_all (fun z : Int => z < 4611686018427387904) b2 (fun j hj => (h.2 j hj).2.2) hle hi⟩
/-- table and groups -/
def stA (h : sw_H) (s : TbZ × Nat) : Prop := tblA h s.1 ∧ srtZ s.1 ∧ h.1 31 6 = zI s.2 ∧ s.2 ≤ 44 ∧ ∀ i, i < s.1.1 → 0 ≤ s.1.2.2.2 i ∧ s.1.2.2.2 i < s.2
section sw_ans2
variable {X : sw_X} {l : Launch} {d : Nat} {h : sw_H} {T : TbZ}
theorem c_A_insert (V : tblA h T) (hs : srtZ T) {a b g : Int} (a1 : a.natAbs < 4611686018427387904) (b1 : 0 < b) (b2 : b < 4611686018427387904) : sw_ct wA X l (d + 1) mX0_insert [.ref 31, .long (zL a), .long (zL b), .int (zI g)] h (sw_qV wA X fun h2 => tblA h2 (insT T a b g) ∧ agB 31 35 h h2 ∧ h2.1 31 6 = h.1 31 6) := by
  have hN := V.2.1.1
  have hle := plT_le T a b T.1
  refine sw_ct_of (by decide +kernel) (Nat.le_of_ble_eq_true rfl) rfl ?_
  generalize ht : plT T a b T.1 = t at hle
  have e1 : zI (t : Nat) + zI 1 = zI ((t + 1 : Nat) : Int) := by rw [zI_add]; rfl
  have e2 : zI (T.1 : Nat) - zI (t : Nat) = zI ((T.1 - t : Nat) : Int) := by rw [zI_sub]; congr 1; omega
  have cs : (zI (t : Nat)).toNatClampNeg = t := zI_clampN (by omega)
  have c1s : (zI ((t + 1 : Nat) : Int)).toNatClampNeg = t + 1 := zI_clampN (by omega)
  have cns : (zI ((T.1 - t : Nat) : Int)).toNatClampNeg = T.1 - t := zI_clampN (by omega)
  have nn : ∀ z : Nat, z < 1000 → ¬ zI (z : Int) < 0 := fun z hz => by rw [z0, zI_lt (by omega) (by omega) (by omega) (by omega)]; omega
  refine sw_aload_n 1 dX0_insert_0 rfl rfl rfl ?_
  refine sw_lload_n 2 dX0_insert_1 rfl rfl rfl ?_
  refine sw_lload_n 3 dX0_insert_2 rfl rfl rfl ?_
  refine sw_invVI 6 dX0_insert_3 rfl lk_RX0_86 (c_A_placeFor V hs a1 (by omega) b2) ⟨by decide, rfl⟩ rfl rfl (Nat.le_of_ble_eq_true rfl) (fun r3 h3 hq3 => ?_)
  obtain ⟨rfl, rfl⟩ := hq3
  rw [ht]
  refine sw_istore (lc' := [(0, _), (1, _), (3, _), (5, _), (6, _)]) 8 dX0_insert_6 rfl (by decide) rfl ?_
  refine sw_aload_n 9 dX0_insert_8 rfl rfl rfl ?_
  refine sw_getI 12 dX0_insert_9 rfl gf_RX0_32 rfl ⟨by decide, rfl⟩ ?_
  rw [V.1]
  refine sw_sipush (v := zI 264) 15 dX0_insert_12 rfl (by decide) ?_
  refine sw_icmp_ge 29 18 dX0_insert_15 (by decide) rfl (fun c15 => ?_) (fun c15 => ?_)
  · rw [zI_le (by omega) (by omega) (by omega) (by omega)] at c15
    have hI : insT T a b g = T := by unfold insT; rw [ht, if_pos (Or.inl (by omega))]
    exact sw_vret dX0_insert_29 rfl ⟨by rw [hI]; exact V, agB_rf, rfl⟩
  · rw [zI_le (by omega) (by omega) (by omega) (by omega)] at c15
    refine sw_aload_n 19 dX0_insert_18 rfl rfl rfl ?_
    refine sw_iload 21 dX0_insert_19 rfl rfl ?_
    refine sw_lload_n 22 dX0_insert_21 rfl rfl rfl ?_
    refine sw_lload_n 23 dX0_insert_22 rfl rfl rfl ?_
    refine sw_invVI 26 dX0_insert_23 rfl lk_RX0_90 (c_A_isAt V (by omega) a1 (by omega) b2) ⟨by decide, rfl⟩ rfl rfl (Nat.le_of_ble_eq_true rfl) (fun r23 h23 hq23 => ?_)
    obtain ⟨rfl, HZ⟩ := hq23
    refine sw_if_eq 30 29 dX0_insert_26 (by decide) rfl (fun c26 => ?_) (fun c26 => ?_)
    · have hA : ¬ isAtT T t a b := by
        rcases HZ with ⟨hz, hA⟩ | ⟨hz, hA⟩
        · rw [hz] at c26; exact absurd c26 (by decide)
        · exact hA
      have hI : insT T a b g = (T.1 + 1, insR t T.1 a T.2.1, insR t T.1 b T.2.2.1, insR t T.1 g T.2.2.2) := by unfold insT; rw [ht, if_neg (fun q => by rcases q with q | q; omega; exact hA q)]
      have hok := insT_ok (g := g) V.2.1 a1 b1 b2
      have hin : vp_in (zI t) 264 := zI_inN (by omega) (by omega)
      refine sw_aload_n 31 dX0_insert_30 rfl rfl rfl ?_
      refine sw_getR (b := 32) 34 dX0_insert_31 rfl gf_RX0_9 (fun _ _ _ _ => rfl) ⟨by decide, rfl⟩ rfl ?_
      refine sw_iload 36 dX0_insert_34 rfl rfl ?_
      refine sw_aload_n 37 dX0_insert_36 rfl rfl rfl ?_
      refine sw_getR (b := 32) 40 dX0_insert_37 rfl gf_RX0_9 (fun _ _ _ _ => rfl) ⟨by decide, rfl⟩ rfl ?_
      refine sw_iload 42 dX0_insert_40 rfl rfl ?_
      refine sw_iconst (v := zI 1) 43 dX0_insert_42 rfl (by decide) ?_
      refine sw_iadd 44 dX0_insert_43 rfl ?_
      refine sw_aload_n 45 dX0_insert_44 rfl rfl rfl ?_
      refine sw_getI 48 dX0_insert_45 rfl gf_RX0_32 rfl ⟨by decide, rfl⟩ ?_
      rw [V.1]
      refine sw_iload 50 dX0_insert_48 rfl rfl ?_
      refine sw_isub 51 dX0_insert_50 rfl ?_
      rw [e1, e2]
      refine sw_acL 54 dX0_insert_51 rfl lk_RX0_94 ⟨by decide, rfl⟩ ⟨by decide, rfl⟩ (nn _ (by omega)) (nn _ (by omega)) (nn _ (by omega)) (by rw [cs, cns]; omega) (by rw [c1s, cns]; omega) (Nat.le_of_ble_eq_true rfl) ?_
      rw [cs, c1s, cns]
      generalize hg1 : sw_cpL h23 32 32 t (t + 1) (T.1 - t) = h51
      have k1 : h51.1 = h23.1 := by rw [← hg1]; rfl
      refine sw_aload_n 55 dX0_insert_54 rfl rfl rfl ?_
      refine sw_getR (b := 33) 58 dX0_insert_55 rfl gf_RX0_15 (fun _ _ _ _ => rfl) ⟨by decide, rfl⟩ rfl ?_
      refine sw_iload 60 dX0_insert_58 rfl rfl ?_
      refine sw_aload_n 61 dX0_insert_60 rfl rfl rfl ?_
      refine sw_getR (b := 33) 64 dX0_insert_61 rfl gf_RX0_15 (fun _ _ _ _ => rfl) ⟨by decide, rfl⟩ rfl ?_
      refine sw_iload 66 dX0_insert_64 rfl rfl ?_
      refine sw_iconst (v := zI 1) 67 dX0_insert_66 rfl (by decide) ?_
      refine sw_iadd 68 dX0_insert_67 rfl ?_
      refine sw_aload_n 69 dX0_insert_68 rfl rfl rfl ?_
      refine sw_getI 72 dX0_insert_69 rfl gf_RX0_32 rfl ⟨by decide, rfl⟩ ?_
      rw [k1, V.1]
      refine sw_iload 74 dX0_insert_72 rfl rfl ?_
      refine sw_isub 75 dX0_insert_74 rfl ?_
      rw [e1, e2]
      refine sw_acL 78 dX0_insert_75 rfl lk_RX0_94 ⟨by decide, rfl⟩ ⟨by decide, rfl⟩ (nn _ (by omega)) (nn _ (by omega)) (nn _ (by omega)) (by rw [cs, cns]; omega) (by rw [c1s, cns]; omega) (Nat.le_of_ble_eq_true rfl) ?_
      rw [cs, c1s, cns]
      generalize hg2 : sw_cpL h51 33 33 t (t + 1) (T.1 - t) = h75
      have k2 : h75.1 = h23.1 := by rw [← hg2, ← k1]; rfl
      refine sw_aload_n 79 dX0_insert_78 rfl rfl rfl ?_
      refine sw_getR (b := 34) 82 dX0_insert_79 rfl gf_RX0_18 (fun _ _ _ _ => rfl) ⟨by decide, rfl⟩ rfl ?_
      refine sw_iload 84 dX0_insert_82 rfl rfl ?_
      refine sw_aload_n 85 dX0_insert_84 rfl rfl rfl ?_
      refine sw_getR (b := 34) 88 dX0_insert_85 rfl gf_RX0_18 (fun _ _ _ _ => rfl) ⟨by decide, rfl⟩ rfl ?_
      refine sw_iload 90 dX0_insert_88 rfl rfl ?_
      refine sw_iconst (v := zI 1) 91 dX0_insert_90 rfl (by decide) ?_
      refine sw_iadd 92 dX0_insert_91 rfl ?_
      refine sw_aload_n 93 dX0_insert_92 rfl rfl rfl ?_
      refine sw_getI 96 dX0_insert_93 rfl gf_RX0_32 rfl ⟨by decide, rfl⟩ ?_
      rw [k2, V.1]
      refine sw_iload 98 dX0_insert_96 rfl rfl ?_
      refine sw_isub 99 dX0_insert_98 rfl ?_
      rw [e1, e2]
      refine sw_acI 102 dX0_insert_99 rfl lk_RX0_94 ⟨by decide, rfl⟩ ⟨by decide, rfl⟩ (nn _ (by omega)) (nn _ (by omega)) (nn _ (by omega)) (by rw [cs, cns]; omega) (by rw [c1s, cns]; omega) (Nat.le_of_ble_eq_true rfl) ?_
      rw [cs, c1s, cns]
      generalize hg3 : sw_cpI h75 34 34 t (t + 1) (T.1 - t) = h99
      refine sw_aload_n 103 dX0_insert_102 rfl rfl rfl ?_
      refine sw_getR (b := 32) 106 dX0_insert_103 rfl gf_RX0_9 (fun _ _ _ _ => rfl) ⟨by decide, rfl⟩ rfl ?_
      refine sw_iload 108 dX0_insert_106 rfl rfl ?_
      refine sw_lload_n 109 dX0_insert_108 rfl rfl rfl ?_
      refine sw_last 110 dX0_insert_109 rfl ⟨by decide, rfl⟩ (by assumption) ?_
      refine sw_aload_n 111 dX0_insert_110 rfl rfl rfl ?_
      refine sw_getR (b := 33) 114 dX0_insert_111 rfl gf_RX0_15 (fun _ _ _ _ => rfl) ⟨by decide, rfl⟩ rfl ?_
      refine sw_iload 116 dX0_insert_114 rfl rfl ?_
      refine sw_lload_n 117 dX0_insert_116 rfl rfl rfl ?_
      refine sw_last 118 dX0_insert_117 rfl ⟨by decide, rfl⟩ (by assumption) ?_
      refine sw_aload_n 119 dX0_insert_118 rfl rfl rfl ?_
      refine sw_getR (b := 34) 122 dX0_insert_119 rfl gf_RX0_18 (fun _ _ _ _ => rfl) ⟨by decide, rfl⟩ rfl ?_
      refine sw_iload 124 dX0_insert_122 rfl rfl ?_
      refine sw_iload 126 dX0_insert_124 rfl rfl ?_
      refine sw_iast 127 dX0_insert_126 rfl ⟨by decide, rfl⟩ (by assumption) ?_
      rw [cs]
      generalize hg4 : sw_wI (sw_wL (sw_wL h99 32 t (zL a)) 33 t (zL b)) 34 t (zI g) = h126
      have m31 : h126.1 31 = h23.1 31 := by
        rw [← hg4, sw_wI_ne (by decide)]
        show h99.1 31 = _
        rw [← hg3]
        show (sw_pI h75 34 _).1 31 = _
        rw [sw_pI_ne (by decide), k2]
      have m34 : h126.1 34 = insR t T.1 (zI g) (h23.1 34) := by
        rw [← hg4, sw_wI_at]
        show va_up (h99.1 34) t (zI g) = _
        rw [← hg3]
        show va_up ((sw_pI h75 34 (va_cpy (h75.1 34) (h75.1 34) t (t + 1) (T.1 - t))).1 34) t (zI g) = _
        rw [sw_pI_at, k2, cpy_ins hle]
      have m32 : h126.2 32 = insR t T.1 (zL a) (h23.2 32) := by
        rw [← hg4]
        show (sw_wL (sw_wL h99 32 t (zL a)) 33 t (zL b)).2 32 = _
        rw [sw_wL_ne (by decide), sw_wL_at, ← hg3]
        show va_up (h75.2 32) t (zL a) = _
        rw [← hg2]
        show va_up ((sw_pL h51 33 _).2 32) t (zL a) = _
        rw [sw_pL_ne (by decide), ← hg1]
        show va_up ((sw_pL h23 32 (va_cpy (h23.2 32) (h23.2 32) t (t + 1) (T.1 - t))).2 32) t (zL a) = _
        rw [sw_pL_at, cpy_ins hle]
      have m33 : h126.2 33 = insR t T.1 (zL b) (h23.2 33) := by
        rw [← hg4]
        show (sw_wL (sw_wL h99 32 t (zL a)) 33 t (zL b)).2 33 = _
        rw [sw_wL_at, sw_wL_ne (by decide), ← hg3]
        show va_up (h75.2 33) t (zL b) = _
        rw [← hg2]
        show va_up ((sw_pL h51 33 (va_cpy (h51.2 33) (h51.2 33) t (t + 1) (T.1 - t))).2 33) t (zL b) = _
        rw [sw_pL_at, ← hg1]
        show va_up (va_cpy ((sw_pL h23 32 _).2 33) ((sw_pL h23 32 _).2 33) t (t + 1) (T.1 - t)) t (zL b) = _
        rw [sw_pL_ne (by decide), cpy_ins hle]
      have ag : agB 31 35 h23 h126 := by
        rw [← hg4, ← hg3, ← hg2, ← hg1]
        exact agB_tr (agB_tr (agB_tr (agB_tr (agB_tr (agB_pL (by omega) (by omega)) (agB_pL (by omega) (by omega))) (agB_pI (by omega) (by omega))) (agB_wL (by omega) (by omega))) (agB_wL (by omega) (by omega))) (agB_wI (by omega) (by omega))
      refine sw_aload_n 128 dX0_insert_127 rfl rfl rfl ?_
      refine sw_dup 129 dX0_insert_128 rfl rfl ?_
      refine sw_getI 132 dX0_insert_129 rfl gf_RX0_32 rfl ⟨by decide, rfl⟩ ?_
      rw [m31, V.1]
      refine sw_iconst (v := zI 1) 133 dX0_insert_132 rfl (by decide) ?_
      refine sw_iadd 134 dX0_insert_133 rfl ?_
      rw [zI_add]
      refine sw_putI 137 dX0_insert_134 rfl pf_RX0_32 rfl ⟨by decide, rfl⟩ ?_
      exact sw_vret dX0_insert_137 rfl (⟨⟨by rw [hI, sw_wI_at]; simp [va_up], hok, fun i hi => by
  rw [hI] at hi ⊢
  have hi : i < T.1 + 1 := hi
  refine ⟨?_, ?_, ?_⟩
  · show h126.2 32 i = _
    rw [m32]; exact insR_map (fun x z => x = zL z) rfl (fun j hj => (V.2.2 j hj).1) hle hi
  · show h126.2 33 i = _
    rw [m33]; exact insR_map (fun x z => x = zL z) rfl (fun j hj => (V.2.2 j hj).2.1) hle hi
  · rw [sw_wI_ne (by decide), m34]; exact insR_map (fun x z => x = zI z) rfl (fun j hj => (V.2.2 j hj).2.2) hle hi⟩, agB_tr ag (agB_wI (by omega) (by omega)), by rw [sw_wI_at]; simp only [va_up]; rw [if_neg (by decide), m31]⟩)
    · have hA : isAtT T t a b := by
        rcases HZ with ⟨hz, hA⟩ | ⟨hz, hA⟩
        · exact hA
        · rw [hz] at c26; exact absurd rfl c26
      have hI : insT T a b g = T := by unfold insT; rw [ht]; exact if_pos (Or.inr hA)
      exact sw_vret dX0_insert_29 rfl ⟨by rw [hI]; exact V, agB_rf, rfl⟩
/-- the six forms from k on -/
def sixT (a b c g : Int) : Nat → Nat → TbZ → TbZ
  | 0, _, T => T
  | m + 1, k, T => sixT a b c g m (k + 1) (insT T (formA a b c k) (formB a b c k) g)
def tryT (n : Nat) (p bx : Nat → Int) (s : TbZ × Nat) (x y : Int) : TbZ × Nat := if y < 2 * x ∨ ¬ holdZ p bx n 0 (y - x) = 1 ∨ 44 ≤ s.2 then s else (sixT x y (y - x) s.2 6 0 s.1, s.2 + 1)
theorem insT_grp {T : TbZ} {a b g : Int} {m : Nat} (h : ∀ i, i < T.1 → 0 ≤ T.2.2.2 i ∧ T.2.2.2 i < m) (hg : 0 ≤ g ∧ g < m) : ∀ i, i < (insT T a b g).1 → 0 ≤ (insT T a b g).2.2.2 i ∧ (insT T a b g).2.2.2 i < m := by
  unfold insT
  split
  · exact h
  · intro i hi
    have hle := plT_le T a b T.1
    exact ⟨insR_all (fun z : Int => 0 ≤ z) hg.1 (fun j hj => (h j hj).1) hle hi, insR_all (fun z : Int => z < m) hg.2 (fun j hj => (h j hj).2) hle hi⟩
theorem sixT_grp {a b c g : Int} {m : Nat} (hg : 0 ≤ g ∧ g < m) : ∀ (c9 k : Nat) (T : TbZ), (∀ i, i < T.1 → 0 ≤ T.2.2.2 i ∧ T.2.2.2 i < m) → ∀ i, i < (sixT a b c g c9 k T).1 → 0 ≤ (sixT a b c g c9 k T).2.2.2 i ∧ (sixT a b c g c9 k T).2.2.2 i < m
  | 0, k, T, h => h
  | c9 + 1, k, T, h => sixT_grp hg c9 (k + 1) _ (insT_grp h hg)
variable {n : Nat} {p bx : Nat → Int}
theorem formB_pos {a b c : Int} (ha : 0 < a) (hb : 0 < b) (hc : 0 < c) (k : Nat) : 0 < formB a b c k := by
  have := rawB_b (a := a) (b := b) (c := c) k
  unfold formB; omega
theorem c_A_tryGroupOf {s : TbZ × Nat} (V : stA h s) (VB : atB h 2 3 4 n p bx) {x y : Int} (x1 : 0 < x) (x2 : x < 1000000000000000) (y1 : 0 < y) (y2 : y < 1000000000000000) : sw_ct wA X l (d + 2) mX0_tryGroupOf [.ref 31, .ref 2, .long (zL x), .long (zL y)] h (sw_qV wA X fun h2 => stA h2 (tryT n p bx s x y) ∧ agB 31 37 h h2) := by
  obtain ⟨T, gc⟩ := s
  have V0 := V
  obtain ⟨V1, V2, V3, V4, V5⟩ := V
  have V3 : h.1 31 6 = zI gc := V3
  have V4 : gc ≤ 44 := V4
  refine sw_ct_of (by decide +kernel) (Nat.le_of_ble_eq_true rfl) rfl ?_
  have stay : (y < 2 * x ∨ ¬ holdZ p bx n 0 (y - x) = 1 ∨ 44 ≤ gc) → sw_wp wA X l (d + 2) mX0_tryGroupOf (sw_qV wA X fun h2 => stA h2 (tryT n p bx (T, gc) x y) ∧ agB 31 37 h h2) 31 [(0, .ref 31), (1, .ref 2), (2, .long (zL x)), (4, .long (zL y))] [] h := by
    intro hc
    exact sw_vret dX0_tryGroupOf_31 rfl ⟨by unfold tryT; rw [if_pos hc]; exact V0, agB_rf⟩
  have loop : ∀ (c k : Nat) (g : sw_H) (T' : TbZ), k + c = 6 → agB 31 37 h g → tblA g T' → srtZ T' → g.1 31 6 = zI gc → atP g 36 x y (y - x) → 2 * x ≤ y → sixT x y (y - x) gc 6 0 T = sixT x y (y - x) gc c k T' → holdZ p bx n 0 (y - x) = 1 → gc < 44 → sw_wp wA X l (d + 2) mX0_tryGroupOf (sw_qV wA X fun h2 => stA h2 (tryT n p bx (T, gc) x y) ∧ agB 31 37 h h2) 45 [(0, .ref 31), (1, .ref 2), (2, .long (zL x)), (4, .long (zL y)), (6, .int (zI k))] [] g := by
    intro c
    induction c with
    | zero =>
      intro k g T' hk A V' S' G P hxy hT hh hgc
      have : k = 6 := by omega
      subst this
      have ht : tryT n p bx (T, gc) x y = (T', gc + 1) := by
        unfold tryT
        rw [if_neg (fun q => by rcases q with q | q | q; omega; exact q hh; exact absurd q (by simp; omega)), hT]
        rfl
      have hgr := sixT_grp (a := x) (b := y) (c := y - x) (g := gc) (m := gc + 1) (by omega) 6 0 T (fun i hi => by have := V5 i hi; simp only at this; omega)
      rw [hT] at hgr
      refine sw_iload 47 dX0_tryGroupOf_45 rfl rfl ?_
      refine sw_bipush (v := zI 6) 49 dX0_tryGroupOf_47 rfl (by decide) ?_
      refine sw_icmp_ge 84 52 dX0_tryGroupOf_49 (by decide) rfl (fun c49 => ?_) (fun c49 => ?_)
      · refine sw_aload_n 85 dX0_tryGroupOf_84 rfl rfl rfl ?_
        refine sw_dup 86 dX0_tryGroupOf_85 rfl rfl ?_
        refine sw_getI 89 dX0_tryGroupOf_86 rfl gf_RX0_42 rfl ⟨by decide, rfl⟩ ?_
        rw [G]
        refine sw_iconst (v := zI 1) 90 dX0_tryGroupOf_89 rfl (by decide) ?_
        refine sw_iadd 91 dX0_tryGroupOf_90 rfl ?_
        rw [zI_add]
        refine sw_putI 94 dX0_tryGroupOf_91 rfl pf_RX0_42 rfl ⟨by decide, rfl⟩ ?_
        exact sw_vret dX0_tryGroupOf_94 rfl (by
  rw [ht]
  refine ⟨⟨⟨?_, V'.2.1, fun i hi => ?_⟩, S', ?_, by show gc + 1 ≤ 44; omega, fun i hi => ?_⟩, agB_tr A (agB_wI (by omega) (by omega))⟩
  · rw [sw_wI_at]; simp only [va_up]; rw [if_neg (by decide)]; exact V'.1
  · rw [sw_wI_ne (by decide)]; exact V'.2.2 i hi
  · rw [sw_wI_at]; simp [va_up]
  · exact hgr i hi)
      · exact absurd (Int32.le_refl _) c49
    | succ c ih =>
      intro k g T' hk A V' S' G P hxy hT hh hgc
      have fb := form_b (a := x) (b := y) (c := y - x) (by omega) (by omega) (by omega) k
      have fp := formB_pos (a := x) (b := y) (c := y - x) (by omega) (by omega) (by omega) k
      refine sw_iload 47 dX0_tryGroupOf_45 rfl rfl ?_
      refine sw_bipush (v := zI 6) 49 dX0_tryGroupOf_47 rfl (by decide) ?_
      refine sw_icmp_ge 84 52 dX0_tryGroupOf_49 (by decide) rfl (fun c49 => ?_) (fun c49 => ?_)
      · exact absurd c49 (by rw [zI_le (by omega) (by omega) (by omega) (by omega)]; omega)
      · refine sw_aload_n 53 dX0_tryGroupOf_52 rfl rfl rfl ?_
        refine sw_aload_n 54 dX0_tryGroupOf_53 rfl rfl rfl ?_
        refine sw_getR (b := 36) 57 dX0_tryGroupOf_54 rfl gf_RX0_28 (fun _ _ _ _ => rfl) ⟨by decide, rfl⟩ rfl ?_
        refine sw_iload 59 dX0_tryGroupOf_57 rfl rfl ?_
        refine sw_invVL 62 dX0_tryGroupOf_59 rfl lk_RX0_75 (c_P_formAbove ⟨by decide, rfl⟩ P (by omega) (by omega) (by omega) (show k < 6 by omega)) ⟨by decide, rfl⟩ rfl rfl (Nat.le_of_ble_eq_true rfl) (fun r59 h59 hq59 => ?_)
        obtain ⟨rfl, rfl⟩ := hq59
        refine sw_aload_n 63 dX0_tryGroupOf_62 rfl rfl rfl ?_
        refine sw_getR (b := 36) 66 dX0_tryGroupOf_63 rfl gf_RX0_28 (fun _ _ _ _ => rfl) ⟨by decide, rfl⟩ rfl ?_
        refine sw_iload 68 dX0_tryGroupOf_66 rfl rfl ?_
        refine sw_invVL 71 dX0_tryGroupOf_68 rfl lk_RX0_79 (c_P_formBelow ⟨by decide, rfl⟩ P (by omega) (by omega) (by omega) (show k < 6 by omega)) ⟨by decide, rfl⟩ rfl rfl (Nat.le_of_ble_eq_true rfl) (fun r68 h68 hq68 => ?_)
        obtain ⟨rfl, rfl⟩ := hq68
        refine sw_aload_n 72 dX0_tryGroupOf_71 rfl rfl rfl ?_
        refine sw_getI 75 dX0_tryGroupOf_72 rfl gf_RX0_42 rfl ⟨by decide, rfl⟩ ?_
        rw [G]
        refine sw_invVV 78 dX0_tryGroupOf_75 rfl lk_RX0_82 (c_A_insert V' S' fb.1 fp fb.2.2) ⟨by decide, rfl⟩ rfl rfl (Nat.le_of_ble_eq_true rfl) (fun h75 hq75 => ?_)
        obtain ⟨W1, W2, W3⟩ := hq75
        refine sw_iinc (v := zI 1) (lc' := [(0, _), (1, _), (2, _), (4, _), (6, _)]) 81 dX0_tryGroupOf_78 rfl (by decide) rfl rfl rfl ?_
        refine sw_goto 45 dX0_tryGroupOf_81 (by decide) ?_
        rw [zI_add]
        exact ih (k + 1) h75 _ (by omega) (agB_tr A (agB_wide W2 (by omega) (by omega))) W1 (insT_srt S') (by rw [W3]; exact G) ⟨by rw [(W2 36 (by omega)).2]; exact P.1, by rw [(W2 36 (by omega)).2]; exact P.2.1, by rw [(W2 36 (by omega)).2]; exact P.2.2⟩ hxy hT hh hgc
  refine sw_ldc2 3 dX0_tryGroupOf_0 rfl (show Cond.constantLong RX0 65 (zL (2)) ∈ sw_big from kk_RX0_65) ?_
  refine sw_lload_n 4 dX0_tryGroupOf_3 rfl rfl rfl ?_
  refine sw_lmul 5 dX0_tryGroupOf_4 rfl ?_
  rw [zL_mul]
  refine sw_lload 7 dX0_tryGroupOf_5 rfl rfl ?_
  refine sw_lcmp 8 dX0_tryGroupOf_7 rfl ?_
  refine sw_if_gt 31 11 dX0_tryGroupOf_8 (by decide) rfl (fun c8 => ?_) (fun c8 => ?_)
  · exact stay (Or.inl (by rw [lc_gt, zL_lt (by omega) (by omega) (by omega) (by omega)] at c8; omega))
  · rw [lc_gt, zL_lt (by omega) (by omega) (by omega) (by omega)] at c8
    refine sw_aload_n 12 dX0_tryGroupOf_11 rfl rfl rfl ?_
    refine sw_lload 14 dX0_tryGroupOf_12 rfl rfl ?_
    refine sw_lload_n 15 dX0_tryGroupOf_14 rfl rfl rfl ?_
    refine sw_lsub 16 dX0_tryGroupOf_15 rfl ?_
    rw [zL_sub]
    refine sw_invVI 19 dX0_tryGroupOf_16 rfl lk_RX0_67 (c_B_boxesHold isB_now VB (by omega) (by omega)) ⟨by decide, rfl⟩ rfl rfl (Nat.le_of_ble_eq_true rfl) (fun r16 h16 hq16 => ?_)
    obtain ⟨rfl, rfl⟩ := hq16
    refine sw_if_eq 31 22 dX0_tryGroupOf_19 (by decide) rfl (fun c19 => ?_) (fun c19 => ?_)
    · exact stay (Or.inr (Or.inl (fun q => by rw [if_pos q] at c19; exact absurd c19 (by decide))))
    · have hh : holdZ p bx n 0 (y - x) = 1 := by
        by_cases hh : holdZ p bx n 0 (y - x) = 1
        · exact hh
        · rw [if_neg hh] at c19; exact absurd rfl c19
      refine sw_aload_n 23 dX0_tryGroupOf_22 rfl rfl rfl ?_
      refine sw_getI 26 dX0_tryGroupOf_23 rfl gf_RX0_42 rfl ⟨by decide, rfl⟩ ?_
      rw [V3]
      refine sw_bipush (v := zI 44) 28 dX0_tryGroupOf_26 rfl (by decide) ?_
      refine sw_icmp_lt 32 31 dX0_tryGroupOf_28 (by decide) rfl (fun c28 => ?_) (fun c28 => ?_)
      · rw [zI_lt (by omega) (by omega) (by omega) (by omega)] at c28
        refine sw_aload_n 33 dX0_tryGroupOf_32 rfl rfl rfl ?_
        refine sw_getR (b := 36) 36 dX0_tryGroupOf_33 rfl gf_RX0_28 (fun _ _ _ _ => rfl) ⟨by decide, rfl⟩ rfl ?_
        refine sw_lload_n 37 dX0_tryGroupOf_36 rfl rfl rfl ?_
        refine sw_lload 39 dX0_tryGroupOf_37 rfl rfl ?_
        refine sw_invVV 42 dX0_tryGroupOf_39 rfl lk_RX0_71 (c_P_set ⟨by decide, rfl⟩) ⟨by decide, rfl⟩ rfl rfl (Nat.le_of_ble_eq_true rfl) (fun h39 hq39 => ?_)
        subst hq39
        refine sw_iconst (v := zI 0) 43 dX0_tryGroupOf_42 rfl (by decide) ?_
        refine sw_istore (lc' := [(0, _), (1, _), (2, _), (4, _), (6, _)]) 45 dX0_tryGroupOf_43 rfl (by decide) rfl ?_
        refine loop 6 0 _ T (by omega) (agB_tr (agB_tr (agB_wL (by omega) (by omega)) (agB_wL (by omega) (by omega))) (agB_wL (by omega) (by omega))) ⟨V1.1, V1.2.1, fun i hi => ?_⟩ V2 V3 ⟨?_, ?_, ?_⟩ (by omega) rfl hh (by omega)
        · have e := V1.2.2 i hi
          refine ⟨?_, ?_, e.2.2⟩
          · rw [sw_wL_ne (by decide), sw_wL_ne (by decide), sw_wL_ne (by decide)]; exact e.1
          · rw [sw_wL_ne (by decide), sw_wL_ne (by decide), sw_wL_ne (by decide)]; exact e.2.1
        · simp only [sw_wL_at]; simp [va_up]
        · simp only [sw_wL_at]; simp [va_up]
        · simp only [sw_wL_at]; simp [va_up]
      · exact stay (Or.inr (Or.inr (by rw [zI_lt (by omega) (by omega) (by omega) (by omega)] at c28; omega)))
end sw_ans2
