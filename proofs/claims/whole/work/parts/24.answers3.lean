/-! ANSWERS: spread, numbering, fill, looking up -/
abbrev StZ : Type := TbZ × Nat
def goT (F : Int → Int → StZ → StZ) (a b q : Int) : Nat → Int → Int → StZ → StZ
  | 0, _, _, s => s
  | c + 1, up, dn, s => goT F a b q c (up * q) (dn * q) (F a (dn * q) (F (up * q) b s))
def spreadT (n : Nat) (p bx : Nat → Int) : Nat → Nat → Int → Int → StZ → StZ
  | 0, _, a, b, s => tryT n p bx s a b
  | f + 1, i, a, b, s => goT (spreadT n p bx f (i + 1)) a b (p i) (bx i).toNat a b (spreadT n p bx f (i + 1) a b s)
def capZ (p : Nat → Int) : Nat → Nat → Int
  | 0, _ => 1
  | f + 1, i => p i ^ 4 * capZ p f (i + 1)
theorem capZ_pos {p : Nat → Int} : ∀ (f i : Nat), (∀ j, i ≤ j → j < i + f → 2 ≤ p j) → 0 < capZ p f i
  | 0, i, _ => by unfold capZ; decide
  | f + 1, i, h => by
    unfold capZ
    have h1 := h i (by omega) (by omega)
    exact Int.mul_pos (Int.pow_pos (by omega)) (capZ_pos f (i + 1) (fun j a b => h j (by omega) (by omega)))
theorem pow_le4 {q : Int} (hq : 2 ≤ q) {j : Nat} (hj : j ≤ 4) : 0 < q ^ j ∧ q ^ j ≤ q ^ 4 := by
  refine ⟨Int.pow_pos (by omega), ?_⟩
  have e : q ^ 4 = q ^ j * q ^ (4 - j) := by rw [← Int.pow_add]; congr 1; omega
  rw [e]
  have h1 : 0 < q ^ j := Int.pow_pos (by omega)
  have h2 : 0 < q ^ (4 - j) := Int.pow_pos (by omega)
  have : q ^ j * 1 ≤ q ^ j * q ^ (4 - j) := Int.mul_le_mul_of_nonneg_left (by omega) (by omega)
  omega
theorem lim_step {p : Nat → Int} {f i j : Nat} {a : Int} (ha : 0 < a) (hl : a * capZ p (f + 1) i ≤ 1000000000000) (hp : ∀ k, i ≤ k → k < i + (f + 1) → 2 ≤ p k) (hj : j ≤ 4) : 0 < a * p i ^ j ∧ a * p i ^ j * capZ p f (i + 1) ≤ 1000000000000 := by
  have h1 := pow_le4 (hp i (by omega) (by omega)) hj
  have hc := capZ_pos (p := p) f (i + 1) (fun k h1 h2 => hp k (by omega) (by omega))
  refine ⟨Int.mul_pos ha h1.1, ?_⟩
  have e : a * capZ p (f + 1) i = a * p i ^ 4 * capZ p f (i + 1) := by
    show a * (p i ^ 4 * capZ p f (i + 1)) = _
    rw [Int.mul_assoc]
  rw [e] at hl
  have h2 : a * p i ^ j ≤ a * p i ^ 4 := Int.mul_le_mul_of_nonneg_left h1.2 (by omega)
  have h3 : a * p i ^ j * capZ p f (i + 1) ≤ a * p i ^ 4 * capZ p f (i + 1) := Int.mul_le_mul_of_nonneg_right h2 (by omega)
  omega
theorem lim_le {p : Nat → Int} {f i : Nat} {a : Int} (ha : 0 < a) (hl : a * capZ p f i ≤ 1000000000000) (hp : ∀ k, i ≤ k → k < i + f → 2 ≤ p k) : a ≤ 1000000000000 := by
  have hc := capZ_pos (p := p) f i hp
  have : a * 1 ≤ a * capZ p f i := Int.mul_le_mul_of_nonneg_left (by omega) (by omega)
  omega
section sw_ans3
variable {X : sw_X} {l : Launch} {d : Nat} {n : Nat} {p bx : Nat → Int}
theorem c_A_spread : ∀ (f i : Nat) (h : sw_H) (a b : Int) (s : StZ), i + f = n → stA h s → atB h 2 3 4 n p bx → 0 < a → a * capZ p f i ≤ 1000000000000 → 0 < b → b * capZ p f i ≤ 1000000000000 → sw_ct wA X l (d + f + 3) mX0_spread [.ref 31, .ref 2, .int (zI i), .long (zL a), .long (zL b)] h (sw_qV wA X fun h2 => stA h2 (spreadT n p bx f i a b s) ∧ agB 31 37 h h2) := by
  intro f
  induction f with
  | zero =>
    intro i h a b s hi V VB a1 a2 b1 b2
    have hi0 : i = n := by omega
    subst hi0
    obtain ⟨v3, v4, v5, v6⟩ := VB
    have e1 : capZ p 0 i = 1 := rfl
    rw [e1] at a2 b2
    refine sw_ct_of (by decide +kernel) (Nat.le_of_ble_eq_true rfl) rfl ?_
    refine sw_iload_n 1 dX0_spread_0 rfl rfl rfl ?_
    refine sw_aload_n 2 dX0_spread_1 rfl rfl rfl ?_
    refine sw_getI 5 dX0_spread_2 rfl gf_RX0_52 rfl ⟨by decide, rfl⟩ ?_
    rw [v3]
    refine sw_icmp_lt 17 8 dX0_spread_5 (by decide) rfl (fun c5 => ?_) (fun c5 => ?_)
    · exact absurd c5 (by rw [zI_lt (by omega) (by omega) (by omega) (by omega)]; omega)
    · refine sw_aload_n 9 dX0_spread_8 rfl rfl rfl ?_
      refine sw_aload_n 10 dX0_spread_9 rfl rfl rfl ?_
      refine sw_lload_n 11 dX0_spread_10 rfl rfl rfl ?_
      refine sw_lload 13 dX0_spread_11 rfl rfl ?_
      refine sw_invVV 16 dX0_spread_13 rfl lk_RX0_55 (c_A_tryGroupOf V ⟨v3, v4, v5, v6⟩ a1 (by omega) b1 (by omega)) ⟨by decide, rfl⟩ rfl rfl (Nat.le_of_ble_eq_true rfl) (fun h13 hq13 => ?_)
      skip
      exact sw_vret dX0_spread_16 rfl (hq13)
  | succ f ihf =>
    intro i h a b s hi V VB a1 a2 b1 b2
    have VB0 := VB
    obtain ⟨v3, v4, v5, v6⟩ := VB
    have hp := v5 i (by omega)
    have hbx := v6 i (by omega)
    have hp2 : ∀ k, i ≤ k → k < i + (f + 1) → 2 ≤ p k := fun k h1 h2 => (v5 k (by omega)).2.1
    have hin : vp_in (zI i) 4 := zI_inN (by omega) (by omega)
    have ei1 : zI i + zI 1 = zI (i + 1 : Nat) := by rw [zI_add]; rfl
    have l0a := lim_step (j := 0) a1 a2 hp2 (by omega)
    have l0b := lim_step (j := 0) b1 b2 hp2 (by omega)
    rw [show a * p i ^ 0 = a by simp] at l0a
    rw [show b * p i ^ 0 = b by simp] at l0b
    refine sw_ct_of (by decide +kernel) (Nat.le_of_ble_eq_true rfl) rfl ?_
    generalize hQ : (sw_qV wA X fun h2 => stA h2 (spreadT n p bx (f + 1) i a b s) ∧ agB 31 37 h h2) = Qc
    have loop : ∀ (c j : Nat) (g : sw_H) (s' : StZ), (j : Int) + c = bx i → stA g s' → agB 31 37 h g → spreadT n p bx (f + 1) i a b s = goT (spreadT n p bx f (i + 1)) a b (p i) c (a * p i ^ j) (b * p i ^ j) s' → sw_wp wA X l (d + (f + 1) + 3) mX0_spread Qc 46 [(0, .ref 31), (1, .ref 2), (2, .int (zI i)), (3, .long (zL a)), (5, .long (zL b)), (7, .int (zI (p i))), (8, .long (zL (a * p i ^ j))), (10, .long (zL (b * p i ^ j))), (12, .int (zI (j + 1)))] [] g := by
      intro c
      induction c with
      | zero =>
        intro j g s' hj V' A ht
        subst hQ
        refine sw_iload 48 dX0_spread_46 rfl rfl ?_
        refine sw_aload_n 49 dX0_spread_48 rfl rfl rfl ?_
        refine sw_getR (b := 4) 52 dX0_spread_49 rfl gf_RX0_62 (fun _ _ _ _ => rfl) ⟨by decide, rfl⟩ rfl ?_
        refine sw_iload_n 53 dX0_spread_52 rfl rfl rfl ?_
        refine sw_iald 54 dX0_spread_53 rfl ⟨by decide, rfl⟩ (by assumption) ?_
        rw [zI_clampN (by omega), (A 4 (by omega)).1, hbx.1]
        refine sw_icmp_gt 102 57 dX0_spread_54 (by decide) rfl (fun c54 => ?_) (fun c54 => ?_)
        · exact sw_vret dX0_spread_102 rfl (⟨by rw [ht]; exact V', A⟩)
        · exact absurd (by rw [zI_lt (by omega) (by omega) (by omega) (by omega)]; omega) c54
      | succ c ih =>
        intro j g s' hj V' A ht
        have la := lim_step (j := j + 1) a1 a2 hp2 (by omega)
        have lb := lim_step (j := j + 1) b1 b2 hp2 (by omega)
        have ea : a * p i ^ j * p i = a * p i ^ (j + 1) := by rw [Int.pow_succ, Int.mul_assoc]
        have eb : b * p i ^ j * p i = b * p i ^ (j + 1) := by rw [Int.pow_succ, Int.mul_assoc]
        have hg : goT (spreadT n p bx f (i + 1)) a b (p i) (c + 1) (a * p i ^ j) (b * p i ^ j) s' = goT (spreadT n p bx f (i + 1)) a b (p i) c (a * p i ^ j * p i) (b * p i ^ j * p i) (spreadT n p bx f (i + 1) a (b * p i ^ j * p i) (spreadT n p bx f (i + 1) (a * p i ^ j * p i) b s')) := rfl
        rw [hg, ea, eb] at ht
        refine sw_iload 48 dX0_spread_46 rfl rfl ?_
        refine sw_aload_n 49 dX0_spread_48 rfl rfl rfl ?_
        refine sw_getR (b := 4) 52 dX0_spread_49 rfl gf_RX0_62 (fun _ _ _ _ => rfl) ⟨by decide, rfl⟩ rfl ?_
        refine sw_iload_n 53 dX0_spread_52 rfl rfl rfl ?_
        refine sw_iald 54 dX0_spread_53 rfl ⟨by decide, rfl⟩ (by assumption) ?_
        rw [zI_clampN (by omega), (A 4 (by omega)).1, hbx.1]
        refine sw_icmp_gt 102 57 dX0_spread_54 (by decide) rfl (fun c54 => ?_) (fun c54 => ?_)
        · exact absurd c54 (by rw [zI_lt (by omega) (by omega) (by omega) (by omega)]; omega)
        · refine sw_lload 59 dX0_spread_57 rfl rfl ?_
          refine sw_iload 61 dX0_spread_59 rfl rfl ?_
          refine sw_i2l 62 dX0_spread_61 rfl ?_
          rw [zI_i2l (by omega) (by omega)]
          refine sw_lmul 63 dX0_spread_62 rfl ?_
          rw [zL_mul, ea]
          refine sw_lstore (lc' := [(0, _), (1, _), (2, _), (3, _), (5, _), (7, _), (8, _), (10, _), (12, _)]) 65 dX0_spread_63 rfl (by decide) rfl ?_
          refine sw_lload 67 dX0_spread_65 rfl rfl ?_
          refine sw_iload 69 dX0_spread_67 rfl rfl ?_
          refine sw_i2l 70 dX0_spread_69 rfl ?_
          rw [zI_i2l (by omega) (by omega)]
          refine sw_lmul 71 dX0_spread_70 rfl ?_
          rw [zL_mul, eb]
          refine sw_lstore (lc' := [(0, _), (1, _), (2, _), (3, _), (5, _), (7, _), (8, _), (10, _), (12, _)]) 73 dX0_spread_71 rfl (by decide) rfl ?_
          refine sw_aload_n 74 dX0_spread_73 rfl rfl rfl ?_
          refine sw_aload_n 75 dX0_spread_74 rfl rfl rfl ?_
          refine sw_iload_n 76 dX0_spread_75 rfl rfl rfl ?_
          refine sw_iconst (v := zI 1) 77 dX0_spread_76 rfl (by decide) ?_
          refine sw_iadd 78 dX0_spread_77 rfl ?_
          refine sw_lload 80 dX0_spread_78 rfl rfl ?_
          refine sw_lload 82 dX0_spread_80 rfl rfl ?_
          rw [ei1]
          refine sw_invSV 85 dX0_spread_82 rfl lk_RX0_45 (ihf (i + 1) g (a * p i ^ (j + 1)) b s' (by omega) V' (agB_B A (by omega) VB0) la.1 la.2 l0b.1 l0b.2) rfl rfl (Nat.le_of_ble_eq_true rfl) (fun h82 hq82 => ?_)
          obtain ⟨W1, W2⟩ := hq82
          refine sw_aload_n 86 dX0_spread_85 rfl rfl rfl ?_
          refine sw_aload_n 87 dX0_spread_86 rfl rfl rfl ?_
          refine sw_iload_n 88 dX0_spread_87 rfl rfl rfl ?_
          refine sw_iconst (v := zI 1) 89 dX0_spread_88 rfl (by decide) ?_
          refine sw_iadd 90 dX0_spread_89 rfl ?_
          refine sw_lload_n 91 dX0_spread_90 rfl rfl rfl ?_
          refine sw_lload 93 dX0_spread_91 rfl rfl ?_
          rw [ei1]
          refine sw_invSV 96 dX0_spread_93 rfl lk_RX0_45 (ihf (i + 1) h82 a (b * p i ^ (j + 1)) _ (by omega) W1 (agB_B (agB_tr A W2) (by omega) VB0) l0a.1 l0a.2 lb.1 lb.2) rfl rfl (Nat.le_of_ble_eq_true rfl) (fun h93 hq93 => ?_)
          obtain ⟨W3, W4⟩ := hq93
          refine sw_iinc (v := zI 1) (lc' := [(0, _), (1, _), (2, _), (3, _), (5, _), (7, _), (8, _), (10, _), (12, _)]) 99 dX0_spread_96 rfl (by decide) rfl rfl rfl ?_
          refine sw_goto 46 dX0_spread_99 (by decide) ?_
          rw [zI_add, show (j : Int) + 1 + 1 = ((j + 1 : Nat) : Int) + 1 by omega]
          exact ih (j + 1) h93 _ (by omega) W3 (agB_tr (agB_tr A W2) W4) ht
    refine sw_iload_n 1 dX0_spread_0 rfl rfl rfl ?_
    refine sw_aload_n 2 dX0_spread_1 rfl rfl rfl ?_
    refine sw_getI 5 dX0_spread_2 rfl gf_RX0_52 rfl ⟨by decide, rfl⟩ ?_
    rw [v3]
    refine sw_icmp_lt 17 8 dX0_spread_5 (by decide) rfl (fun c5 => ?_) (fun c5 => ?_)
    · refine sw_aload_n 18 dX0_spread_17 rfl rfl rfl ?_
      refine sw_getR (b := 3) 21 dX0_spread_18 rfl gf_RX0_59 (fun _ _ _ _ => rfl) ⟨by decide, rfl⟩ rfl ?_
      refine sw_iload_n 22 dX0_spread_21 rfl rfl rfl ?_
      refine sw_iald 23 dX0_spread_22 rfl ⟨by decide, rfl⟩ (by assumption) ?_
      rw [zI_clampN (by omega), hp.1]
      refine sw_istore (lc' := [(0, _), (1, _), (2, _), (3, _), (5, _), (7, _)]) 25 dX0_spread_23 rfl (by decide) rfl ?_
      refine sw_lload_n 26 dX0_spread_25 rfl rfl rfl ?_
      refine sw_lstore (lc' := [(0, _), (1, _), (2, _), (3, _), (5, _), (7, _), (8, _)]) 28 dX0_spread_26 rfl (by decide) rfl ?_
      refine sw_aload_n 29 dX0_spread_28 rfl rfl rfl ?_
      refine sw_aload_n 30 dX0_spread_29 rfl rfl rfl ?_
      refine sw_iload_n 31 dX0_spread_30 rfl rfl rfl ?_
      refine sw_iconst (v := zI 1) 32 dX0_spread_31 rfl (by decide) ?_
      refine sw_iadd 33 dX0_spread_32 rfl ?_
      refine sw_lload_n 34 dX0_spread_33 rfl rfl rfl ?_
      refine sw_lload 36 dX0_spread_34 rfl rfl ?_
      rw [ei1]
      refine sw_invSV 39 dX0_spread_36 rfl lk_RX0_45 (ihf (i + 1) h a b s (by omega) V VB0 l0a.1 l0a.2 l0b.1 l0b.2) rfl rfl (Nat.le_of_ble_eq_true rfl) (fun h36 hq36 => ?_)
      obtain ⟨W1, W2⟩ := hq36
      refine sw_lload 41 dX0_spread_39 rfl rfl ?_
      refine sw_lstore (lc' := [(0, _), (1, _), (2, _), (3, _), (5, _), (7, _), (8, _), (10, _)]) 43 dX0_spread_41 rfl (by decide) rfl ?_
      refine sw_iconst (v := zI 1) 44 dX0_spread_43 rfl (by decide) ?_
      refine sw_istore (lc' := [(0, _), (1, _), (2, _), (3, _), (5, _), (7, _), (8, _), (10, _), (12, _)]) 46 dX0_spread_44 rfl (by decide) rfl ?_
      have e9 := loop (bx i).toNat 0 h36 _ (by omega) W1 W2 (by rw [show a * p i ^ 0 = a by simp, show b * p i ^ 0 = b by simp]; rfl)
      rw [show a * p i ^ 0 = a by simp, show b * p i ^ 0 = b by simp] at e9
      exact e9
    · exact absurd (by rw [zI_lt (by omega) (by omega) (by omega) (by omega)]; omega) c5
-- numbers of groups: by their first answers
def newR (G : Nat → Int) : Nat → (Nat → Int) × Nat
  | 0 => (fun _ => -1, 0)
  | i + 1 => if (newR G i).1 (G i).toNat < 0 then (va_up (newR G i).1 (G i).toNat (newR G i).2, (newR G i).2 + 1) else newR G i
def newG (G : Nat → Int) (N : Nat) (i : Nat) : Int := (newR G (i + 1)).1 (G i).toNat
theorem newR_b (G : Nat → Int) : ∀ i j, -1 ≤ (newR G i).1 j ∧ (newR G i).1 j < (newR G i).2 ∧ (newR G i).2 ≤ i
  | 0, j => by unfold newR; simp
  | i + 1, j => by
    have h1 := newR_b G i j
    unfold newR
    split
    · simp only [va_up]; split <;> omega
    · omega
variable {h : sw_H}
/-- numberGroups -/
theorem c_A_numberGroups {T : TbZ} {gc : Nat} (V : stA h (T, gc)) : sw_ct wA X l (d + 1) mX0_numberGroups [.ref 31] h (sw_qV wA X fun h2 => tblA h2 (T.1, T.2.1, T.2.2.1, newG T.2.2.2 T.1) ∧ h2.1 31 6 = zI gc ∧ agB 31 37 h h2) := by
  obtain ⟨V1, V2, V3, V4, V5⟩ := V
  have V1 : tblA h T := V1
  have V3 : h.1 31 6 = zI gc := V3
  have V4 : gc ≤ 44 := V4
  have V5 : ∀ i, i < T.1 → 0 ≤ T.2.2.2 i ∧ T.2.2.2 i < gc := V5
  have hN := V1.2.1.1
  have hN : T.1 ≤ 264 := hN
  refine sw_ct_of (by decide +kernel) (Nat.le_of_ble_eq_true rfl) rfl ?_
  have loop : ∀ (c j : Nat) (g : sw_H), j + c = T.1 → agB 31 37 h g → g.1 31 = h.1 31 → g.2 = h.2 → (∀ r, r < 44 → g.1 35 r = zI ((newR T.2.2.2 j).1 r)) → (∀ i, i < T.1 → g.1 34 i = zI (if i < j then newG T.2.2.2 T.1 i else T.2.2.2 i)) → sw_wp wA X l (d + 1) mX0_numberGroups (sw_qV wA X fun h2 => tblA h2 (T.1, T.2.1, T.2.2.1, newG T.2.2.2 T.1) ∧ h2.1 31 6 = zI gc ∧ agB 31 37 h h2) 12 [(0, .ref 31), (1, .int (zI (newR T.2.2.2 j).2)), (2, .int (zI j))] [] g := by
    intro c
    induction c with
    | zero =>
      intro j g hj A g31 g2 g35 g34
      have : j = T.1 := by omega
      subst this
      refine sw_iload_n 13 dX0_numberGroups_12 rfl rfl rfl ?_
      refine sw_aload_n 14 dX0_numberGroups_13 rfl rfl rfl ?_
      refine sw_getI 17 dX0_numberGroups_14 rfl gf_RX0_32 rfl ⟨by decide, rfl⟩ ?_
      rw [g31, V1.1]
      refine sw_icmp_ge 64 20 dX0_numberGroups_17 (by decide) rfl (fun c17 => ?_) (fun c17 => ?_)
      · exact sw_vret dX0_numberGroups_64 rfl (⟨⟨by rw [g31]; exact V1.1, V1.2.1, fun i hi => ⟨by rw [g2]; exact (V1.2.2 i hi).1, by rw [g2]; exact (V1.2.2 i hi).2.1, by rw [g34 i hi, if_pos hi]⟩⟩, by rw [g31]; exact V3, A⟩)
      · exact absurd (Int32.le_refl _) c17
    | succ c ih =>
      intro j g hj A g31 g2 g35 g34
      have hin : vp_in (zI j) 264 := zI_inN (by omega) (by omega)
      have hG := V5 j (by omega)
      have gj := g34 j (by omega)
      rw [if_neg (by omega)] at gj
      have hin4 : vp_in (zI (T.2.2.2 j)) 44 := zI_in (by omega) (by omega) (by omega)
      have hnb := newR_b T.2.2.2 j (T.2.2.2 j).toNat
      have hr35 := g35 (T.2.2.2 j).toNat (by omega)
      have le : newR T.2.2.2 (j + 1) = if (newR T.2.2.2 j).1 (T.2.2.2 j).toNat < 0 then (va_up (newR T.2.2.2 j).1 (T.2.2.2 j).toNat (newR T.2.2.2 j).2, (newR T.2.2.2 j).2 + 1) else newR T.2.2.2 j := rfl
      have fin : ∀ (k : sw_H), k.1 31 = h.1 31 → k.2 = h.2 → agB 31 37 h k → (∀ r, r < 44 → k.1 35 r = zI ((newR T.2.2.2 (j + 1)).1 r)) → (∀ i, i < T.1 → k.1 34 i = zI (if i < j then newG T.2.2.2 T.1 i else T.2.2.2 i)) → sw_wp wA X l (d + 1) mX0_numberGroups (sw_qV wA X fun h2 => tblA h2 (T.1, T.2.1, T.2.2.1, newG T.2.2.2 T.1) ∧ h2.1 31 6 = zI gc ∧ agB 31 37 h h2) 46 [(0, .ref 31), (1, .int (zI (newR T.2.2.2 (j + 1)).2)), (2, .int (zI j)), (3, .int (zI (T.2.2.2 j)))] [] k := by
        intro k k31 k2 kA k35 k34
        refine sw_aload_n 47 dX0_numberGroups_46 rfl rfl rfl ?_
        refine sw_getR (b := 34) 50 dX0_numberGroups_47 rfl gf_RX0_18 (fun _ _ _ _ => rfl) ⟨by decide, rfl⟩ rfl ?_
        refine sw_iload_n 51 dX0_numberGroups_50 rfl rfl rfl ?_
        refine sw_aload_n 52 dX0_numberGroups_51 rfl rfl rfl ?_
        refine sw_getR (b := 35) 55 dX0_numberGroups_52 rfl gf_RX0_22 (fun _ _ _ _ => rfl) ⟨by decide, rfl⟩ rfl ?_
        refine sw_iload_n 56 dX0_numberGroups_55 rfl rfl rfl ?_
        refine sw_iald 57 dX0_numberGroups_56 rfl ⟨by decide, rfl⟩ (by assumption) ?_
        rw [zI_clamp (by omega) (by omega), k35 _ (by omega)]
        refine sw_iast 58 dX0_numberGroups_57 rfl ⟨by decide, rfl⟩ (by assumption) ?_
        refine sw_iinc (v := zI 1) (lc' := [(0, _), (1, _), (2, _), (3, _)]) 61 dX0_numberGroups_58 rfl (by decide) rfl rfl rfl ?_
        refine sw_goto 12 dX0_numberGroups_61 (by decide) ?_
        rw [zI_clampN (by omega), zI_add]
        refine sw_wp_sub (by simp) (ih (j + 1) _ (by omega) (agB_tr kA (agB_wI (by omega) (by omega))) (by rw [sw_wI_ne (by decide)]; exact k31) k2 (fun r hr => by rw [sw_wI_ne (by decide)]; exact k35 r hr) (fun i hi => ?_))
        rw [sw_wI_at]
        by_cases e : i = j
        · subst e; simp only [va_up, if_true]; rw [if_pos (by omega)]; rfl
        · simp only [va_up, if_neg e]; rw [k34 i hi]
          have e2 : (i < j + 1) = (i < j) := by apply propext; omega
          simp only [e2]
      refine sw_iload_n 13 dX0_numberGroups_12 rfl rfl rfl ?_
      refine sw_aload_n 14 dX0_numberGroups_13 rfl rfl rfl ?_
      refine sw_getI 17 dX0_numberGroups_14 rfl gf_RX0_32 rfl ⟨by decide, rfl⟩ ?_
      rw [g31, V1.1]
      refine sw_icmp_ge 64 20 dX0_numberGroups_17 (by decide) rfl (fun c17 => ?_) (fun c17 => ?_)
      · exact absurd c17 (by rw [zI_le (by omega) (by omega) (by omega) (by omega)]; omega)
      · refine sw_aload_n 21 dX0_numberGroups_20 rfl rfl rfl ?_
        refine sw_getR (b := 34) 24 dX0_numberGroups_21 rfl gf_RX0_18 (fun _ _ _ _ => rfl) ⟨by decide, rfl⟩ rfl ?_
        refine sw_iload_n 25 dX0_numberGroups_24 rfl rfl rfl ?_
        refine sw_iald 26 dX0_numberGroups_25 rfl ⟨by decide, rfl⟩ (by assumption) ?_
        rw [zI_clampN (by omega), gj]
        refine sw_istore_n (lc' := [(0, _), (1, _), (2, _), (3, _)]) 27 dX0_numberGroups_26 rfl rfl (by decide) rfl ?_
        refine sw_aload_n 28 dX0_numberGroups_27 rfl rfl rfl ?_
        refine sw_getR (b := 35) 31 dX0_numberGroups_28 rfl gf_RX0_22 (fun _ _ _ _ => rfl) ⟨by decide, rfl⟩ rfl ?_
        refine sw_iload_n 32 dX0_numberGroups_31 rfl rfl rfl ?_
        refine sw_iald 33 dX0_numberGroups_32 rfl ⟨by decide, rfl⟩ (by assumption) ?_
        rw [zI_clamp (by omega) (by omega), hr35]
        refine sw_if_ge 46 36 dX0_numberGroups_33 (by decide) rfl (fun c33 => ?_) (fun c33 => ?_)
        · rw [z0, zI_le (by omega) (by omega) (by omega) (by omega)] at c33
          rw [if_neg (by omega)] at le
          have f9 := fin g g31 g2 A (fun r hr => by rw [le]; exact g35 r hr) g34
          rw [le] at f9; exact f9
        · refine sw_aload_n 37 dX0_numberGroups_36 rfl rfl rfl ?_
          refine sw_getR (b := 35) 40 dX0_numberGroups_37 rfl gf_RX0_22 (fun _ _ _ _ => rfl) ⟨by decide, rfl⟩ rfl ?_
          refine sw_iload_n 41 dX0_numberGroups_40 rfl rfl rfl ?_
          refine sw_iload_n 42 dX0_numberGroups_41 rfl rfl rfl ?_
          refine sw_iast 43 dX0_numberGroups_42 rfl ⟨by decide, rfl⟩ (by assumption) ?_
          refine sw_iinc (v := zI 1) (lc' := [(0, _), (1, _), (2, _), (3, _)]) 46 dX0_numberGroups_43 rfl (by decide) rfl rfl rfl ?_
          rw [z0, zI_le (by omega) (by omega) (by omega) (by omega)] at c33
          rw [if_pos (by omega)] at le
          rw [zI_clamp (by omega) (by omega), zI_add]
          have f9 := fin (sw_wI g 35 (T.2.2.2 j).toNat (zI (newR T.2.2.2 j).2)) (by rw [sw_wI_ne (by decide)]; exact g31) g2 (agB_tr A (agB_wI (by omega) (by omega))) (fun r hr => ?_) (fun i hi => by rw [sw_wI_ne (by decide)]; exact g34 i hi)
          · rw [le] at f9; exact f9
          · rw [le, sw_wI_at]
            by_cases e : r = (T.2.2.2 j).toNat
            · simp only [va_up, if_pos e]
            · simp only [va_up, if_neg e]; exact g35 r hr
  refine sw_aload_n 1 dX0_numberGroups_0 rfl rfl rfl ?_
  refine sw_getR (b := 35) 4 dX0_numberGroups_1 rfl gf_RX0_22 (fun _ _ _ _ => rfl) ⟨by decide, rfl⟩ rfl ?_
  refine sw_iconst (v := zI (-1)) 5 dX0_numberGroups_4 rfl (by decide) ?_
  refine sw_invSV 8 dX0_numberGroups_5 rfl lk_RX0_107 (c_fillI (n := 44) ⟨by decide, rfl⟩ (by omega) _) rfl rfl (Nat.le_of_ble_eq_true rfl) (fun h5 hq5 => ?_)
  subst hq5
  refine sw_iconst (v := zI 0) 9 dX0_numberGroups_8 rfl (by decide) ?_
  refine sw_istore_n (lc' := [(0, _), (1, _)]) 10 dX0_numberGroups_9 rfl rfl (by decide) rfl ?_
  refine sw_iconst (v := zI 0) 11 dX0_numberGroups_10 rfl (by decide) ?_
  refine sw_istore_n (lc' := [(0, _), (1, _), (2, _)]) 12 dX0_numberGroups_11 rfl rfl (by decide) rfl ?_
  exact loop T.1 0 _ (by omega) (agB_pI (by omega) (by omega)) (by rw [sw_pI_ne (by decide)]) rfl (fun r hr => by rw [sw_pI_at, if_pos hr]; rfl) (fun i hi => by rw [sw_pI_ne (by decide), if_neg (by omega)]; exact (V1.2.2 i hi).2.2)
def emptyT : TbZ := (0, fun _ => 0, fun _ => 0, fun _ => 0)
def fillT (n : Nat) (p bx : Nat → Int) : StZ := spreadT n p bx n 0 1 1 (emptyT, 0)
/-- the table as it is told: groups by their first answers -/
def ansT (n : Nat) (p bx : Nat → Int) : TbZ := ((fillT n p bx).1.1, (fillT n p bx).1.2.1, (fillT n p bx).1.2.2.1, newG (fillT n p bx).1.2.2.2 (fillT n p bx).1.1)
theorem c_A_fill (VB : atB h 2 3 4 n p bx) (hc : capZ p n 0 ≤ 1000000000000) : sw_ct wA X l (d + n + 4) mX0_fill [.ref 31, .ref 2] h (sw_qV wA X fun h2 => tblA h2 (ansT n p bx) ∧ srtZ (ansT n p bx) ∧ h2.1 31 6 = zI (fillT n p bx).2 ∧ (fillT n p bx).2 ≤ 44 ∧ agB 31 37 h h2) := by
  refine sw_ct_of (by decide +kernel) (Nat.le_of_ble_eq_true rfl) rfl ?_
  have V0 : stA (sw_wI (sw_wI h 31 5 (zI 0)) 31 6 (zI 0)) (emptyT, 0) := by
    refine ⟨⟨?_, ⟨by decide, fun i hi => absurd hi (Nat.not_lt_zero i)⟩, fun i hi => absurd hi (Nat.not_lt_zero i)⟩, fun i j _ hj => absurd hj (Nat.not_lt_zero j), ?_, by decide, fun i hi => absurd hi (Nat.not_lt_zero i)⟩
    · rw [sw_wI_at]; simp only [va_up]; rw [if_neg (by decide), sw_wI_at]; simp [va_up, emptyT]
    · rw [sw_wI_at]; simp [va_up]
  have A0 : agB 31 37 h (sw_wI (sw_wI h 31 5 (zI 0)) 31 6 (zI 0)) := agB_tr (agB_wI (by omega) (by omega)) (agB_wI (by omega) (by omega))
  refine sw_aload_n 1 dX0_fill_0 rfl rfl rfl ?_
  refine sw_iconst (v := zI 0) 2 dX0_fill_1 rfl (by decide) ?_
  refine sw_putI 5 dX0_fill_2 rfl pf_RX0_32 rfl ⟨by decide, rfl⟩ ?_
  refine sw_aload_n 6 dX0_fill_5 rfl rfl rfl ?_
  refine sw_iconst (v := zI 0) 7 dX0_fill_6 rfl (by decide) ?_
  refine sw_putI 10 dX0_fill_7 rfl pf_RX0_42 rfl ⟨by decide, rfl⟩ ?_
  refine sw_aload_n 11 dX0_fill_10 rfl rfl rfl ?_
  refine sw_aload_n 12 dX0_fill_11 rfl rfl rfl ?_
  refine sw_iconst (v := zI 0) 13 dX0_fill_12 rfl (by decide) ?_
  refine sw_lconst (v := zL 1) 14 dX0_fill_13 rfl (by decide) ?_
  refine sw_lconst (v := zL 1) 15 dX0_fill_14 rfl (by decide) ?_
  refine sw_invSV 18 dX0_fill_15 rfl lk_RX0_45 (c_A_spread n 0 _ 1 1 (emptyT, 0) (by omega) V0 (agB_B A0 (by omega) VB) (by omega) (by omega) (by omega) (by omega)) rfl rfl (Nat.le_of_ble_eq_true rfl) (fun h15 hq15 => ?_)
  obtain ⟨W1, W2⟩ := hq15
  refine sw_aload_n 19 dX0_fill_18 rfl rfl rfl ?_
  refine sw_invVV 22 dX0_fill_19 rfl lk_RX0_49 (c_A_numberGroups (T := (fillT n p bx).1) (gc := (fillT n p bx).2) W1) ⟨by decide, rfl⟩ rfl rfl (Nat.le_of_ble_eq_true rfl) (fun h19 hq19 => ?_)
  obtain ⟨W3, W4, W5⟩ := hq19
  exact sw_vret dX0_fill_22 rfl (⟨W3, W1.2.1, W4, W1.2.2.2.1, agB_tr (agB_tr A0 W2) W5⟩)
theorem c_A_numberOf {T : TbZ} {u pu : Nat} {sg : Int} {e : Nat → Int} (V : tblA h T) (hs : srtZ T) (SU : isU wA u pu) (VB : atB h 2 3 4 n p bx) (VU : ∀ i, i < n → h.1 pu i = zI (e i) ∧ -100 ≤ e i ∧ e i ≤ 100) (hsg : h.1 u 1 = zI sg) (hs2 : sg = 1 ∨ sg = -1) (a1 : (sideZ p e 1 n).natAbs < 4611686018427387904) (b1 : 0 ≤ sideZ p e (-1) n) (b2 : sideZ p e (-1) n < 4611686018427387904) : sw_ct wA X l (d + 2) mX0_numberOf [.ref 31, .ref u, .ref 2] h (sw_qI wA X fun r h2 => h2 = h ∧ (isAtT T (plT T (sg * sideZ p e 1 n) (sideZ p e (-1) n) T.1) (sg * sideZ p e 1 n) (sideZ p e (-1) n) ∧ r = zI (plT T (sg * sideZ p e 1 n) (sideZ p e (-1) n) T.1) ∨ ¬ isAtT T (plT T (sg * sideZ p e 1 n) (sideZ p e (-1) n) T.1) (sg * sideZ p e 1 n) (sideZ p e (-1) n) ∧ r = zI (-1))) := by
  have hN := V.2.1.1
  have s1 := SU.1
  have hle := plT_le T (sg * sideZ p e 1 n) (sideZ p e (-1) n) T.1
  have ha : (sg * sideZ p e 1 n).natAbs < 4611686018427387904 := by rcases hs2 with rfl | rfl <;> omega
  refine sw_ct_of (by decide +kernel) (Nat.le_of_ble_eq_true rfl) rfl ?_
  refine sw_aload_n 1 dX0_numberOf_0 rfl rfl rfl ?_
  refine sw_aload_n 2 dX0_numberOf_1 rfl rfl rfl ?_
  refine sw_invVL 5 dX0_numberOf_2 rfl lk_RX0_100 (c_U_above SU isB_now VB VU hsg hs2) (by first | assumption | exact ⟨by decide, rfl⟩) rfl rfl (Nat.le_of_ble_eq_true rfl) (fun r2 h2 hq2 => ?_)
  obtain ⟨rfl, rfl⟩ := hq2
  refine sw_lstore_n (lc' := [(0, _), (1, _), (2, _), (3, _)]) 6 dX0_numberOf_5 rfl rfl (by decide) rfl ?_
  refine sw_aload_n 7 dX0_numberOf_6 rfl rfl rfl ?_
  refine sw_aload_n 8 dX0_numberOf_7 rfl rfl rfl ?_
  refine sw_invVL 11 dX0_numberOf_8 rfl lk_RX0_105 (c_U_below SU isB_now VB VU) (by first | assumption | exact ⟨by decide, rfl⟩) rfl rfl (Nat.le_of_ble_eq_true rfl) (fun r8 h8 hq8 => ?_)
  obtain ⟨rfl, rfl⟩ := hq8
  refine sw_lstore (lc' := [(0, _), (1, _), (2, _), (3, _), (5, _)]) 13 dX0_numberOf_11 rfl (by decide) rfl ?_
  refine sw_aload_n 14 dX0_numberOf_13 rfl rfl rfl ?_
  refine sw_lload_n 15 dX0_numberOf_14 rfl rfl rfl ?_
  refine sw_lload 17 dX0_numberOf_15 rfl rfl ?_
  refine sw_invVI 20 dX0_numberOf_17 rfl lk_RX0_86 (c_A_placeFor V hs ha b1 b2) ⟨by decide, rfl⟩ rfl rfl (Nat.le_of_ble_eq_true rfl) (fun r17 h17 hq17 => ?_)
  obtain ⟨rfl, rfl⟩ := hq17
  refine sw_istore (lc' := [(0, _), (1, _), (2, _), (3, _), (5, _), (7, _)]) 22 dX0_numberOf_20 rfl (by decide) rfl ?_
  refine sw_aload_n 23 dX0_numberOf_22 rfl rfl rfl ?_
  refine sw_iload 25 dX0_numberOf_23 rfl rfl ?_
  refine sw_lload_n 26 dX0_numberOf_25 rfl rfl rfl ?_
  refine sw_lload 28 dX0_numberOf_26 rfl rfl ?_
  refine sw_invVI 31 dX0_numberOf_28 rfl lk_RX0_90 (c_A_isAt V (by omega) ha b1 b2) ⟨by decide, rfl⟩ rfl rfl (Nat.le_of_ble_eq_true rfl) (fun r28 h28 hq28 => ?_)
  obtain ⟨rfl, HZ⟩ := hq28
  refine sw_if_eq 39 34 dX0_numberOf_31 (by decide) rfl (fun c31 => ?_) (fun c31 => ?_)
  · refine sw_iconst (v := zI (-1)) 40 dX0_numberOf_39 rfl (by decide) ?_
    exact sw_iret dX0_numberOf_40 rfl (⟨rfl, Or.inr ⟨by
  rcases HZ with ⟨hz, hA⟩ | ⟨hz, hA⟩
  · rw [hz] at c31; exact absurd c31 (by decide)
  · exact hA, rfl⟩⟩)
  · refine sw_iload 36 dX0_numberOf_34 rfl rfl ?_
    refine sw_goto 40 dX0_numberOf_36 (by decide) ?_
    exact sw_iret dX0_numberOf_40 rfl (⟨rfl, Or.inl ⟨by
  rcases HZ with ⟨hz, hA⟩ | ⟨hz, hA⟩
  · exact hA
  · rw [hz] at c31; exact absurd rfl c31, rfl⟩⟩)
def cntG (G : Nat → Int) (g : Int) : Nat → Nat
  | 0 => 0
  | i + 1 => cntG G g i + if G i = g then 1 else 0
theorem c_A_sizeOfGroup {T : TbZ} (V : tblA h T) (VG : ∀ i, i < T.1 → -1 ≤ T.2.2.2 i ∧ T.2.2.2 i ≤ 300) {g : Int} (g1 : -2147483648 ≤ g) (g2 : g < 2147483648) : sw_ct wA X l d mX0_sizeOfGroup [.ref 31, .int (zI g)] h (sw_qI wA X fun r h2 => h2 = h ∧ r = zI (cntG T.2.2.2 g T.1)) := by
  have hN := V.2.1.1
  refine sw_ct_of (by decide +kernel) (Nat.le_of_ble_eq_true rfl) rfl ?_
  have loop : ∀ m j : Nat, j + m = T.1 → sw_wp wA X l d mX0_sizeOfGroup (sw_qI wA X fun r h2 => h2 = h ∧ r = zI (cntG T.2.2.2 g T.1)) 4 [(0, .ref 31), (1, .int (zI g)), (2, .int (zI (cntG T.2.2.2 g j))), (3, .int (zI j))] [] h := by
    intro m
    induction m with
    | zero =>
      intro j hj
      have : j = T.1 := by omega
      subst this
      refine sw_iload_n 5 dX0_sizeOfGroup_4 rfl rfl rfl ?_
      refine sw_aload_n 6 dX0_sizeOfGroup_5 rfl rfl rfl ?_
      refine sw_getI 9 dX0_sizeOfGroup_6 rfl gf_RX0_32 rfl ⟨by decide, rfl⟩ ?_
      rw [V.1]
      refine sw_icmp_ge 31 12 dX0_sizeOfGroup_9 (by decide) rfl (fun c9 => ?_) (fun c9 => ?_)
      · refine sw_iload_n 32 dX0_sizeOfGroup_31 rfl rfl rfl ?_
        exact sw_iret dX0_sizeOfGroup_32 rfl (⟨rfl, rfl⟩)
      · exact absurd (Int32.le_refl _) c9
    | succ m ih =>
      intro j hj
      have hin : vp_in (zI j) 264 := zI_inN (by omega) (by omega)
      have hv := (V.2.2 j (by omega)).2.2
      have hg := VG j (by omega)
      have i9 := ih (j + 1) (by omega)
      have e9 : cntG T.2.2.2 g (j + 1) = cntG T.2.2.2 g j + if T.2.2.2 j = g then 1 else 0 := rfl
      refine sw_iload_n 5 dX0_sizeOfGroup_4 rfl rfl rfl ?_
      refine sw_aload_n 6 dX0_sizeOfGroup_5 rfl rfl rfl ?_
      refine sw_getI 9 dX0_sizeOfGroup_6 rfl gf_RX0_32 rfl ⟨by decide, rfl⟩ ?_
      rw [V.1]
      refine sw_icmp_ge 31 12 dX0_sizeOfGroup_9 (by decide) rfl (fun c9 => ?_) (fun c9 => ?_)
      · exact absurd c9 (by rw [zI_le (by omega) (by omega) (by omega) (by omega)]; omega)
      · refine sw_aload_n 13 dX0_sizeOfGroup_12 rfl rfl rfl ?_
        refine sw_getR (b := 34) 16 dX0_sizeOfGroup_13 rfl gf_RX0_18 (fun _ _ _ _ => rfl) ⟨by decide, rfl⟩ rfl ?_
        refine sw_iload_n 17 dX0_sizeOfGroup_16 rfl rfl rfl ?_
        refine sw_iald 18 dX0_sizeOfGroup_17 rfl ⟨by decide, rfl⟩ (by assumption) ?_
        rw [zI_clampN (by omega), hv]
        refine sw_iload_n 19 dX0_sizeOfGroup_18 rfl rfl rfl ?_
        refine sw_icmp_ne 25 22 dX0_sizeOfGroup_19 (by decide) rfl (fun c19 => ?_) (fun c19 => ?_)
        · refine sw_iinc (v := zI 1) (lc' := [(0, _), (1, _), (2, _), (3, _)]) 28 dX0_sizeOfGroup_25 rfl (by decide) rfl rfl rfl ?_
          refine sw_goto 4 dX0_sizeOfGroup_28 (by decide) ?_
          rw [zI_eq (by omega) (by omega) (by omega) (by omega)] at c19
          rw [e9, if_neg c19, Nat.add_zero] at i9
          simp only [zI_add]
          exact i9
        · refine sw_iinc (v := zI 1) (lc' := [(0, _), (1, _), (2, _), (3, _)]) 25 dX0_sizeOfGroup_22 rfl (by decide) rfl rfl rfl ?_
          refine sw_iinc (v := zI 1) (lc' := [(0, _), (1, _), (2, _), (3, _)]) 28 dX0_sizeOfGroup_25 rfl (by decide) rfl rfl rfl ?_
          refine sw_goto 4 dX0_sizeOfGroup_28 (by decide) ?_
          rw [zI_eq (by omega) (by omega) (by omega) (by omega)] at c19
          rw [e9, if_pos c19] at i9
          simp only [zI_add]
          exact i9
  refine sw_iconst (v := zI 0) 1 dX0_sizeOfGroup_0 rfl (by decide) ?_
  refine sw_istore_n (lc' := [(0, _), (1, _), (2, _)]) 2 dX0_sizeOfGroup_1 rfl rfl (by decide) rfl ?_
  refine sw_iconst (v := zI 0) 3 dX0_sizeOfGroup_2 rfl (by decide) ?_
  refine sw_istore_n (lc' := [(0, _), (1, _), (2, _), (3, _)]) 4 dX0_sizeOfGroup_3 rfl rfl (by decide) rfl ?_
  exact loop T.1 0 (by omega)
theorem c_A_firstOfGroup {T : TbZ} (V : tblA h T) (VG : ∀ i, i < T.1 → -1 ≤ T.2.2.2 i ∧ T.2.2.2 i ≤ 300) {g : Int} (g1 : -2147483648 ≤ g) (g2 : g < 2147483648) : sw_ct wA X l d mX0_firstOfGroup [.ref 31, .int (zI g)] h (sw_qI wA X fun r h2 => h2 = h ∧ r = zI (fndZ T.2.2.2 g T.1 0)) := by
  have hN := V.2.1.1
  refine sw_ct_of (by decide +kernel) (Nat.le_of_ble_eq_true rfl) rfl ?_
  have loop : ∀ m j : Nat, j + m = T.1 → sw_wp wA X l d mX0_firstOfGroup (sw_qI wA X fun r h2 => h2 = h ∧ r = zI (fndZ T.2.2.2 g m j)) 2 [(0, .ref 31), (1, .int (zI g)), (2, .int (zI j))] [] h := by
    intro m
    induction m with
    | zero =>
      intro j hj
      have : j = T.1 := by omega
      subst this
      refine sw_iload_n 3 dX0_firstOfGroup_2 rfl rfl rfl ?_
      refine sw_aload_n 4 dX0_firstOfGroup_3 rfl rfl rfl ?_
      refine sw_getI 7 dX0_firstOfGroup_4 rfl gf_RX0_32 rfl ⟨by decide, rfl⟩ ?_
      rw [V.1]
      refine sw_icmp_ge 28 10 dX0_firstOfGroup_7 (by decide) rfl (fun c7 => ?_) (fun c7 => ?_)
      · refine sw_iconst (v := zI (-1)) 29 dX0_firstOfGroup_28 rfl (by decide) ?_
        exact sw_iret dX0_firstOfGroup_29 rfl (⟨rfl, rfl⟩)
      · exact absurd (Int32.le_refl _) c7
    | succ m ih =>
      intro j hj
      have hin : vp_in (zI j) 264 := zI_inN (by omega) (by omega)
      have hv := (V.2.2 j (by omega)).2.2
      have hg := VG j (by omega)
      have le : fndZ T.2.2.2 g (m + 1) j = if T.2.2.2 j = g then (j : Int) else fndZ T.2.2.2 g m (j + 1) := rfl
      refine sw_iload_n 3 dX0_firstOfGroup_2 rfl rfl rfl ?_
      refine sw_aload_n 4 dX0_firstOfGroup_3 rfl rfl rfl ?_
      refine sw_getI 7 dX0_firstOfGroup_4 rfl gf_RX0_32 rfl ⟨by decide, rfl⟩ ?_
      rw [V.1]
      refine sw_icmp_ge 28 10 dX0_firstOfGroup_7 (by decide) rfl (fun c7 => ?_) (fun c7 => ?_)
      · exact absurd c7 (by rw [zI_le (by omega) (by omega) (by omega) (by omega)]; omega)
      · refine sw_aload_n 11 dX0_firstOfGroup_10 rfl rfl rfl ?_
        refine sw_getR (b := 34) 14 dX0_firstOfGroup_11 rfl gf_RX0_18 (fun _ _ _ _ => rfl) ⟨by decide, rfl⟩ rfl ?_
        refine sw_iload_n 15 dX0_firstOfGroup_14 rfl rfl rfl ?_
        refine sw_iald 16 dX0_firstOfGroup_15 rfl ⟨by decide, rfl⟩ (by assumption) ?_
        rw [zI_clampN (by omega), hv]
        refine sw_iload_n 17 dX0_firstOfGroup_16 rfl rfl rfl ?_
        refine sw_icmp_ne 22 20 dX0_firstOfGroup_17 (by decide) rfl (fun c17 => ?_) (fun c17 => ?_)
        · rw [zI_eq (by omega) (by omega) (by omega) (by omega)] at c17
          refine sw_iinc (v := zI 1) (lc' := [(0, _), (1, _), (2, _)]) 25 dX0_firstOfGroup_22 rfl (by decide) rfl rfl rfl ?_
          refine sw_goto 2 dX0_firstOfGroup_25 (by decide) ?_
          rw [if_neg c17] at le
          rw [zI_add, le]
          exact ih (j + 1) (by omega)
        · rw [zI_eq (by omega) (by omega) (by omega) (by omega)] at c17
          refine sw_iload_n 21 dX0_firstOfGroup_20 rfl rfl rfl ?_
          exact sw_iret dX0_firstOfGroup_21 rfl (⟨rfl, by rw [le, if_pos c17]⟩)
  refine sw_iconst (v := zI 0) 1 dX0_firstOfGroup_0 rfl (by decide) ?_
  refine sw_istore_n (lc' := [(0, _), (1, _), (2, _)]) 2 dX0_firstOfGroup_1 rfl rfl (by decide) rfl ?_
  exact loop T.1 0 (by omega)
end sw_ans3
