/-! UNIT -/
def isU (w : sw_W) (u pu : Nat) : Prop := sw_o w u 10 ∧ w.2.2 u 0 = pu ∧ sw_r w pu 0 4 ∧ u ≠ pu
def atU (h : sw_H) (u pu : Nat) (sg : Int) (e : Nat → Int) : Prop := h.1 u 1 = zI sg ∧ ∀ i, i < 4 → h.1 pu i = zI (e i)
/-- the Unit u with the row f and the sign x -/
def uH (h : sw_H) (u pu : Nat) (f : Nat → Int32) (x : Int32) : sw_H := sw_wI (sw_pI h pu f) u 1 x
section sw_unit
variable {w : sw_W} {X : sw_X} {l : Launch} {d : Nat} {h : sw_H} {u pu b pa ba n : Nat} {p bx : Nat → Int} {sg : Int} {e : Nat → Int}
theorem uH_other {f : Nat → Int32} {x : Int32} {a : Nat} (h1 : a ≠ u) (h2 : a ≠ pu) : (uH h u pu f x).1 a = h.1 a := by rw [uH, sw_wI_ne h1, sw_pI_ne h2]
theorem uH_row (S : isU w u pu) {f : Nat → Int32} {x : Int32} : (uH h u pu f x).1 pu = f := by rw [uH, sw_wI_ne S.2.2.2.symm, sw_pI_at]
theorem uH_sign (S : isU w u pu) {f : Nat → Int32} {x : Int32} : (uH h u pu f x).1 u 1 = x := by rw [uH, sw_wI_at]; simp [va_up]
theorem uH_uH (S : isU w u pu) {f g : Nat → Int32} {x x' : Int32} : uH (uH h u pu f x) u pu g x' = uH h u pu g x' := by
  unfold uH
  rw [sw_wI_p, sw_wI_p, sw_wI_p, sw_pI_ne S.2.2.2, sw_pI_ne S.2.2.2, sw_pI_ne S.2.2.2, sw_pI_comm S.2.2.2, sw_pI_pI, sw_pI_at, sw_pI_pI]
  congr 1; funext i; by_cases e : i = 1 <;> simp [va_up, e]
theorem uH_up (S : isU w u pu) {f : Nat → Int32} {x : Int32} {i : Nat} {v : Int32} : sw_wI (uH h u pu f x) pu i v = uH h u pu (va_up f i v) x := by
  rw [sw_wI_p, uH_row S]
  unfold uH
  rw [sw_wI_p, sw_wI_p, sw_pI_ne S.2.2.2, sw_pI_ne S.2.2.2, sw_pI_comm S.2.2.2, sw_pI_pI]
theorem uH_sg (S : isU w u pu) {f : Nat → Int32} {x y : Int32} : sw_wI (uH h u pu f x) u 1 y = uH h u pu f y := by
  unfold uH
  rw [sw_wI_p, sw_wI_p, sw_wI_p, sw_pI_at, sw_pI_pI, sw_pI_ne S.2.2.2]
  congr 1; funext i; by_cases e : i = 1 <;> simp [va_up, e]
theorem uH_self (S : isU w u pu) : uH h u pu (h.1 pu) (h.1 u 1) = h := by
  rw [uH, sw_pI_self rfl, sw_wI_p]
  refine sw_pI_self ?_
  funext i; by_cases e : i = 1 <;> simp [va_up, e]
theorem uH_pI (S : isU w u pu) {f : Nat → Int32} : sw_pI h pu f = uH h u pu f (h.1 u 1) := by
  rw [uH, sw_wI_p]
  refine (sw_pI_self ?_).symm
  rw [sw_pI_ne S.2.2.2]
  funext i; by_cases e : i = 1 <;> simp [va_up, e]
theorem c_U_setOne (S : isU w u pu) : sw_ct w X l (d + 1) mX10_setOne [.ref u] h (sw_qV w X fun h2 => h2 = uH h u pu (fun k => if k < 4 then zI 0 else h.1 pu k) (zI 1)) := by
  obtain ⟨s1, s2, s3, s4⟩ := S
  refine sw_ct_of (by decide +kernel) (Nat.le_of_ble_eq_true rfl) rfl ?_
  refine sw_aload_n 1 dX10_setOne_0 rfl rfl rfl ?_
  refine sw_getR 4 dX10_setOne_1 rfl gf_RX10_9 (fun _ _ _ _ => rfl) (by first | assumption | exact ⟨by decide, rfl⟩) (by first | assumption | rfl) ?_
  refine sw_iconst (v := zI 0) 5 dX10_setOne_4 rfl (by decide) ?_
  refine sw_invSV 8 dX10_setOne_5 rfl lk_RX10_19 (c_fillI s3 (by omega) _) rfl rfl (Nat.le_of_ble_eq_true rfl) (fun h5 hq5 => ?_)
  subst hq5
  refine sw_aload_n 9 dX10_setOne_8 rfl rfl rfl ?_
  refine sw_iconst (v := zI 1) 10 dX10_setOne_9 rfl (by decide) ?_
  refine sw_putI 13 dX10_setOne_10 rfl pf_RX10_15 rfl (by first | assumption | exact ⟨by decide, rfl⟩) ?_
  exact sw_vret dX10_setOne_13 rfl (rfl)
theorem c_U_copy {v pv : Nat} (S : isU w u pu) (S2 : isU w v pv) (e2 : v ≠ pu) : sw_ct w X l (d + 1) mX10_copy [.ref u, .ref v] h (sw_qV w X fun h2 => h2 = uH h u pu (va_cpy (h.1 pv) (h.1 pu) 0 0 4) (h.1 v 1)) := by
  obtain ⟨s1, s2, s3, s4⟩ := S
  obtain ⟨q1, q2, q3, q4⟩ := S2
  refine sw_ct_of (by decide +kernel) (Nat.le_of_ble_eq_true rfl) rfl ?_
  refine sw_aload_n 1 dX10_copy_0 rfl rfl rfl ?_
  refine sw_getR 4 dX10_copy_1 rfl gf_RX10_9 (fun _ _ _ _ => rfl) (by first | assumption | exact ⟨by decide, rfl⟩) (by first | assumption | rfl) ?_
  refine sw_iconst (v := zI 0) 5 dX10_copy_4 rfl (by decide) ?_
  refine sw_aload_n 6 dX10_copy_5 rfl rfl rfl ?_
  refine sw_getR 9 dX10_copy_6 rfl gf_RX10_9 (fun _ _ _ _ => rfl) (by first | assumption | exact ⟨by decide, rfl⟩) (by first | assumption | rfl) ?_
  refine sw_iconst (v := zI 0) 10 dX10_copy_9 rfl (by decide) ?_
  refine sw_iconst (v := zI 4) 11 dX10_copy_10 rfl (by decide) ?_
  refine sw_acI 14 dX10_copy_11 rfl lk_RX10_25 (by first | assumption | exact ⟨by decide, rfl⟩) (by first | assumption | exact ⟨by decide, rfl⟩) (by decide) (by decide) (by decide) (by decide) (by decide) (Nat.le_of_ble_eq_true rfl) ?_
  refine sw_aload_n 15 dX10_copy_14 rfl rfl rfl ?_
  refine sw_aload_n 16 dX10_copy_15 rfl rfl rfl ?_
  refine sw_getI 19 dX10_copy_16 rfl gf_RX10_15 rfl (by first | assumption | exact ⟨by decide, rfl⟩) ?_
  refine sw_putI 22 dX10_copy_19 rfl pf_RX10_15 rfl (by first | assumption | exact ⟨by decide, rfl⟩) ?_
  exact sw_vret dX10_copy_22 rfl (by
  show sw_wI (sw_pI h pu (va_cpy (h.1 pv) (h.1 pu) 0 0 4)) u 1 ((sw_pI h pu (va_cpy (h.1 pv) (h.1 pu) 0 0 4)).1 _ 1) = _
  rw [sw_pI_ne e2]; rfl)
theorem c_U_insertPower (S : isU w u pu) {k : Nat} (hk : k < 4) : sw_ct w X l d mX10_insertPower [.ref u, .int (zI k)] h (sw_qV w X fun h2 => h2 = sw_pI h pu (insR k 3 (zI 0) (h.1 pu))) := by
  obtain ⟨s1, s2, s3, s4⟩ := S
  refine sw_ct_of (by decide +kernel) (Nat.le_of_ble_eq_true rfl) rfl ?_
  generalize hQ : (sw_qV w X fun h2 => h2 = sw_pI h pu (insR k 3 (zI 0) (h.1 pu))) = Qc
  have loop : ∀ m j : Nat, k + m = j → j ≤ 3 → sw_wp w X l d mX10_insertPower Qc 2 [(0, .ref u), (1, .int (zI k)), (2, .int (zI j))] [] (sw_pI h pu (shR j 3 (h.1 pu))) := by
    intro m
    induction m with
    | zero =>
      intro j hj hj3
      have : j = k := by omega
      subst this
      have hin : vp_in (zI j) 4 := zI_inN (by omega) (by omega)
      subst hQ
      refine sw_iload_n 3 dX10_insertPower_2 rfl rfl rfl ?_
      refine sw_iload_n 4 dX10_insertPower_3 rfl rfl rfl ?_
      refine sw_icmp_le 27 7 dX10_insertPower_4 (by decide) rfl (fun c4 => ?_) (fun c4 => ?_)
      · refine sw_iload_n 28 dX10_insertPower_27 rfl rfl rfl ?_
        refine sw_if_lt 43 31 dX10_insertPower_28 (by decide) rfl (fun c28 => ?_) (fun c28 => ?_)
        · exact absurd c28 (by rw [z0, zI_lt (by omega) (by omega) (by omega) (by omega)]; omega)
        · refine sw_iload_n 32 dX10_insertPower_31 rfl rfl rfl ?_
          refine sw_iconst (v := zI 4) 33 dX10_insertPower_32 rfl (by decide) ?_
          refine sw_icmp_ge 43 36 dX10_insertPower_33 (by decide) rfl (fun c33 => ?_) (fun c33 => ?_)
          · exact absurd c33 (by rw [zI_le (by omega) (by omega) (by omega) (by omega)]; omega)
          · refine sw_aload_n 37 dX10_insertPower_36 rfl rfl rfl ?_
            refine sw_getR 40 dX10_insertPower_37 rfl gf_RX10_9 (fun _ _ _ _ => rfl) (by first | assumption | exact ⟨by decide, rfl⟩) (by first | assumption | rfl) ?_
            refine sw_iload_n 41 dX10_insertPower_40 rfl rfl rfl ?_
            refine sw_iconst (v := zI 0) 42 dX10_insertPower_41 rfl (by decide) ?_
            refine sw_iast 43 dX10_insertPower_42 rfl (by first | assumption | exact ⟨by decide, rfl⟩) (by assumption) ?_
            exact sw_vret dX10_insertPower_43 rfl (by rw [zI_clampN (by omega), sw_wI_pI, shR_ins])
      · exact absurd (Int32.le_refl _) c4
    | succ m ih =>
      intro j hj hj3
      have hin : vp_in (zI j) 4 := zI_inN (by omega) (by omega)
      have e4 : zI j - zI 1 = zI (j - 1 : Nat) := by rw [zI_sub]; congr 1; omega
      have e5 : zI j + zI (-1) = zI (j - 1 : Nat) := by rw [zI_add]; congr 1; omega
      have hin2 : vp_in (zI j - zI 1) 4 := by rw [e4]; exact zI_inN (by omega) (by omega)
      refine sw_iload_n 3 dX10_insertPower_2 rfl rfl rfl ?_
      refine sw_iload_n 4 dX10_insertPower_3 rfl rfl rfl ?_
      refine sw_icmp_le 27 7 dX10_insertPower_4 (by decide) rfl (fun c4 => ?_) (fun c4 => ?_)
      · exact absurd c4 (by rw [zI_le (by omega) (by omega) (by omega) (by omega)]; omega)
      · refine sw_aload_n 8 dX10_insertPower_7 rfl rfl rfl ?_
        refine sw_getR 11 dX10_insertPower_8 rfl gf_RX10_9 (fun _ _ _ _ => rfl) (by first | assumption | exact ⟨by decide, rfl⟩) (by first | assumption | rfl) ?_
        refine sw_iload_n 12 dX10_insertPower_11 rfl rfl rfl ?_
        refine sw_aload_n 13 dX10_insertPower_12 rfl rfl rfl ?_
        refine sw_getR 16 dX10_insertPower_13 rfl gf_RX10_9 (fun _ _ _ _ => rfl) (by first | assumption | exact ⟨by decide, rfl⟩) (by first | assumption | rfl) ?_
        refine sw_iload_n 17 dX10_insertPower_16 rfl rfl rfl ?_
        refine sw_iconst (v := zI 1) 18 dX10_insertPower_17 rfl (by decide) ?_
        refine sw_isub 19 dX10_insertPower_18 rfl ?_
        refine sw_iald 20 dX10_insertPower_19 rfl (by first | assumption | exact ⟨by decide, rfl⟩) (by assumption) ?_
        refine sw_iast 21 dX10_insertPower_20 rfl (by first | assumption | exact ⟨by decide, rfl⟩) (by assumption) ?_
        refine sw_iinc (v := zI (-1)) (lc' := [(0, _), (1, _), (2, _)]) 24 dX10_insertPower_21 rfl (by decide) rfl rfl rfl ?_
        refine sw_goto 2 dX10_insertPower_24 (by decide) ?_
        rw [e4, e5, zI_clampN (show j - 1 < 2147483648 by omega), zI_clampN (show j < 2147483648 by omega), sw_wI_pI, sw_pI_at]
        have e6 := shR_step (i := j - 1) (n := 3) (by omega) (h.1 pu)
        rw [show j - 1 + 1 = j by omega] at e6
        rw [e6]
        exact ih (j - 1) (by omega) (by omega)
  refine sw_iconst (v := zI 3) 1 dX10_insertPower_0 rfl (by decide) ?_
  refine sw_istore_n (lc' := [(0, _), (1, _), (2, _)]) 2 dX10_insertPower_1 rfl rfl (by decide) rfl ?_
  have e := loop (3 - k) 3 (by omega) (by omega)
  rw [shR_self, sw_pI_self rfl] at e
  exact e
theorem c_U_removePower (S : isU w u pu) {k : Nat} (hk : k < 4) : sw_ct w X l (d + 1) mX10_removePower [.ref u, .int (zI k)] h (sw_qV w X fun h2 => h2 = sw_pI h pu (va_up (rmR k 3 (h.1 pu)) 3 (zI 0))) := by
  obtain ⟨s1, s2, s3, s4⟩ := S
  refine sw_ct_of (by decide +kernel) (Nat.le_of_ble_eq_true rfl) rfl ?_
  generalize hQ : (sw_qV w X fun h2 => h2 = sw_pI h pu (va_up (rmR k 3 (h.1 pu)) 3 (zI 0))) = Qc
  have loop : ∀ m j : Nat, j + m = 3 → k ≤ j → sw_wp w X l (d + 1) mX10_removePower Qc 6 [(0, .ref u), (1, .int (zI k)), (2, .int (zI j))] [] (sw_pI h pu (rmR k j (h.1 pu))) := by
    intro m
    induction m with
    | zero =>
      intro j hj hkj
      have : j = 3 := by omega
      subst this
      have hin : vp_in (zI 3) 4 := zI_inN (a := 3) (by omega) (by omega)
      subst hQ
      refine sw_iload_n 7 dX10_removePower_6 rfl rfl rfl ?_
      refine sw_iconst (v := zI 3) 8 dX10_removePower_7 rfl (by decide) ?_
      refine sw_icmp_ge 31 11 dX10_removePower_8 (by decide) rfl (fun c8 => ?_) (fun c8 => ?_)
      · refine sw_aload_n 32 dX10_removePower_31 rfl rfl rfl ?_
        refine sw_getR 35 dX10_removePower_32 rfl gf_RX10_9 (fun _ _ _ _ => rfl) (by first | assumption | exact ⟨by decide, rfl⟩) (by first | assumption | rfl) ?_
        refine sw_iconst (v := zI 3) 36 dX10_removePower_35 rfl (by decide) ?_
        refine sw_iconst (v := zI 0) 37 dX10_removePower_36 rfl (by decide) ?_
        refine sw_iast 38 dX10_removePower_37 rfl (by first | assumption | exact ⟨by decide, rfl⟩) (by assumption) ?_
        exact sw_vret dX10_removePower_38 rfl (by rw [show (zI 3).toNatClampNeg = 3 from rfl, sw_wI_pI])
      · exact absurd (Int32.le_refl _) c8
    | succ m ih =>
      intro j hj hkj
      have hin : vp_in (zI j) 4 := zI_inN (by omega) (by omega)
      have e4 : zI j + zI 1 = zI (j + 1 : Nat) := by rw [zI_add]; rfl
      have hin2 : vp_in (zI j + zI 1) 4 := by rw [e4]; exact zI_inN (by omega) (by omega)
      refine sw_iload_n 7 dX10_removePower_6 rfl rfl rfl ?_
      refine sw_iconst (v := zI 3) 8 dX10_removePower_7 rfl (by decide) ?_
      refine sw_icmp_ge 31 11 dX10_removePower_8 (by decide) rfl (fun c8 => ?_) (fun c8 => ?_)
      · exact absurd c8 (by rw [zI_le (by omega) (by omega) (by omega) (by omega)]; omega)
      · refine sw_aload_n 12 dX10_removePower_11 rfl rfl rfl ?_
        refine sw_getR 15 dX10_removePower_12 rfl gf_RX10_9 (fun _ _ _ _ => rfl) (by first | assumption | exact ⟨by decide, rfl⟩) (by first | assumption | rfl) ?_
        refine sw_iload_n 16 dX10_removePower_15 rfl rfl rfl ?_
        refine sw_aload_n 17 dX10_removePower_16 rfl rfl rfl ?_
        refine sw_getR 20 dX10_removePower_17 rfl gf_RX10_9 (fun _ _ _ _ => rfl) (by first | assumption | exact ⟨by decide, rfl⟩) (by first | assumption | rfl) ?_
        refine sw_iload_n 21 dX10_removePower_20 rfl rfl rfl ?_
        refine sw_iconst (v := zI 1) 22 dX10_removePower_21 rfl (by decide) ?_
        refine sw_iadd 23 dX10_removePower_22 rfl ?_
        refine sw_iald 24 dX10_removePower_23 rfl (by first | assumption | exact ⟨by decide, rfl⟩) (by assumption) ?_
        refine sw_iast 25 dX10_removePower_24 rfl (by first | assumption | exact ⟨by decide, rfl⟩) (by assumption) ?_
        refine sw_iinc (v := zI 1) (lc' := [(0, _), (1, _), (2, _)]) 28 dX10_removePower_25 rfl (by decide) rfl rfl rfl ?_
        refine sw_goto 6 dX10_removePower_28 (by decide) ?_
        rw [e4, zI_clampN (show j + 1 < 2147483648 by omega), zI_clampN (show j < 2147483648 by omega), sw_wI_pI, sw_pI_at, rmR_step hkj]
        exact ih (j + 1) (by omega) (by omega)
  refine sw_iload_n 1 dX10_removePower_0 rfl rfl rfl ?_
  refine sw_iconst (v := zI 0) 2 dX10_removePower_1 rfl (by decide) ?_
  refine sw_invSI 5 dX10_removePower_2 rfl lk_RX10_31 (c_maxZ (by omega) (by omega) (by omega) (by omega)) rfl rfl (Nat.le_of_ble_eq_true rfl) (fun r2 h2 hq2 => ?_)
  obtain ⟨rfl, rfl⟩ := hq2
  refine sw_istore_n (lc' := [(0, _), (1, _), (2, _)]) 6 dX10_removePower_5 rfl rfl (by decide) rfl ?_
  have e := loop (3 - k) k (by omega) (Nat.le_refl k)
  rw [rmR_self, sw_pI_self rfl] at e
  rw [show max (k : Int) 0 = k by omega]
  exact e
/-- one side of the line: s is 1 or -1 -/
def sideZ (p e : Nat → Int) (s : Int) : Nat → Int
  | 0 => 1
  | i + 1 => sideZ p e s i * p i ^ (s * e i).toNat
theorem c_U_oneSide (S : isU w u pu) (SB : isB w b pa ba) (V : atB h b pa ba n p bx) (VU : ∀ i, i < n → h.1 pu i = zI (e i) ∧ -100 ≤ e i ∧ e i ≤ 100) {s : Int} (hs : s = 1 ∨ s = -1) : sw_ct w X l d mX10_oneSide [.ref u, .ref b, .int (zI s)] h (sw_qL w X fun r h2 => h2 = h ∧ r = zL (sideZ p e s n)) := by
  obtain ⟨s1, s2, s3, s4⟩ := S
  obtain ⟨q1, q2, q3, q4, q5, q6, q7, q8⟩ := SB
  obtain ⟨v3, v4, v5, v6⟩ := V
  refine sw_ct_of (by decide +kernel) (Nat.le_of_ble_eq_true rfl) rfl ?_
  have inner : ∀ (m j i : Nat) (acc : Int), i < n → (j : Int) + m = (s * e i).toNat → sw_wp w X l d mX10_oneSide (sw_qL w X fun r h2 => h2 = h ∧ r = zL (sideZ p e s n)) 52 [(0, .ref u), (1, .ref b), (2, .int (zI s)), (3, .long (zL (acc * p i ^ m))), (5, .int (zI i))] [] h → sw_wp w X l d mX10_oneSide (sw_qL w X fun r h2 => h2 = h ∧ r = zL (sideZ p e s n)) 28 [(0, .ref u), (1, .ref b), (2, .int (zI s)), (3, .long (zL acc)), (5, .int (zI i)), (6, .int (zI (s * e i))), (7, .int (zI j))] [] h := by
    intro m
    induction m with
    | zero =>
      intro j i acc hi hj k
      have hv := VU i hi
      have hse : -100 ≤ s * e i ∧ s * e i ≤ 100 := by rcases hs with rfl | rfl <;> omega
      refine sw_iload 30 dX10_oneSide_28 rfl rfl ?_
      refine sw_iload 32 dX10_oneSide_30 rfl rfl ?_
      refine sw_icmp_ge 52 35 dX10_oneSide_32 (by decide) rfl (fun c32 => ?_) (fun c32 => ?_)
      · rw [show acc * p i ^ 0 = acc by simp] at k
        exact sw_wp_sub (by simp) k
      · exact absurd ((zI_le (by omega) (by omega) (by omega) (by omega)).mpr (by omega)) c32
    | succ m ih =>
      intro j i acc hi hj k
      have hv := VU i hi
      have hp := v5 i hi
      have hse : -100 ≤ s * e i ∧ s * e i ≤ 100 := by rcases hs with rfl | rfl <;> omega
      have hin : vp_in (zI i) 4 := zI_inN (by omega) (by omega)
      refine sw_iload 30 dX10_oneSide_28 rfl rfl ?_
      refine sw_iload 32 dX10_oneSide_30 rfl rfl ?_
      refine sw_icmp_ge 52 35 dX10_oneSide_32 (by decide) rfl (fun c32 => ?_) (fun c32 => ?_)
      · exact absurd c32 (by rw [zI_le (by omega) (by omega) (by omega) (by omega)]; omega)
      · refine sw_lload_n 36 dX10_oneSide_35 rfl rfl rfl ?_
        refine sw_aload_n 37 dX10_oneSide_36 rfl rfl rfl ?_
        refine sw_getR 40 dX10_oneSide_37 rfl gf_RX10_46 (fun _ _ _ _ => rfl) (by first | assumption | exact ⟨by decide, rfl⟩) (by first | assumption | rfl) ?_
        refine sw_iload 42 dX10_oneSide_40 rfl rfl ?_
        refine sw_iald 43 dX10_oneSide_42 rfl (by first | assumption | exact ⟨by decide, rfl⟩) (by assumption) ?_
        rw [zI_clampN (by omega), hp.1]
        refine sw_i2l 44 dX10_oneSide_43 rfl ?_
        rw [zI_i2l (by omega) (by omega)]
        refine sw_lmul 45 dX10_oneSide_44 rfl ?_
        refine sw_lstore_n (lc' := [(0, _), (1, _), (2, _), (3, _), (5, _), (6, _), (7, _)]) 46 dX10_oneSide_45 rfl rfl (by decide) rfl ?_
        refine sw_iinc (v := zI 1) (lc' := [(0, _), (1, _), (2, _), (3, _), (5, _), (6, _), (7, _)]) 49 dX10_oneSide_46 rfl (by decide) rfl rfl rfl ?_
        refine sw_goto 28 dX10_oneSide_49 (by decide) ?_
        rw [zL_mul, zI_add]
        refine ih (j + 1) i (acc * p i) hi (by omega) ?_
        rw [show acc * p i * p i ^ m = acc * p i ^ (m + 1) by rw [Int.pow_succ, Int.mul_assoc, Int.mul_comm (p i)]]
        exact k
  have loop : ∀ m j : Nat, j + m = n → sw_wp w X l d mX10_oneSide (sw_qL w X fun r h2 => h2 = h ∧ r = zL (sideZ p e s n)) 5 [(0, .ref u), (1, .ref b), (2, .int (zI s)), (3, .long (zL (sideZ p e s j))), (5, .int (zI j))] [] h := by
    intro m
    induction m with
    | zero =>
      intro j hj
      have : j = n := by omega
      subst this
      refine sw_iload 7 dX10_oneSide_5 rfl rfl ?_
      refine sw_aload_n 8 dX10_oneSide_7 rfl rfl rfl ?_
      refine sw_getI 11 dX10_oneSide_8 rfl gf_RX10_41 rfl (by first | assumption | exact ⟨by decide, rfl⟩) ?_
      rw [v3]
      refine sw_icmp_ge 58 14 dX10_oneSide_11 (by decide) rfl (fun c11 => ?_) (fun c11 => ?_)
      · refine sw_lload_n 59 dX10_oneSide_58 rfl rfl rfl ?_
        exact sw_lret dX10_oneSide_59 rfl (⟨rfl, rfl⟩)
      · exact absurd (Int32.le_refl _) c11
    | succ m ih =>
      intro j hj
      have hv := VU j (by omega)
      have hin : vp_in (zI j) 4 := zI_inN (by omega) (by omega)
      refine sw_iload 7 dX10_oneSide_5 rfl rfl ?_
      refine sw_aload_n 8 dX10_oneSide_7 rfl rfl rfl ?_
      refine sw_getI 11 dX10_oneSide_8 rfl gf_RX10_41 rfl (by first | assumption | exact ⟨by decide, rfl⟩) ?_
      rw [v3]
      refine sw_icmp_ge 58 14 dX10_oneSide_11 (by decide) rfl (fun c11 => ?_) (fun c11 => ?_)
      · exact absurd c11 (by rw [zI_le (by omega) (by omega) (by omega) (by omega)]; omega)
      · refine sw_iload_n 15 dX10_oneSide_14 rfl rfl rfl ?_
        refine sw_aload_n 16 dX10_oneSide_15 rfl rfl rfl ?_
        refine sw_getR 19 dX10_oneSide_16 rfl gf_RX10_9 (fun _ _ _ _ => rfl) (by first | assumption | exact ⟨by decide, rfl⟩) (by first | assumption | rfl) ?_
        refine sw_iload 21 dX10_oneSide_19 rfl rfl ?_
        refine sw_iald 22 dX10_oneSide_21 rfl (by first | assumption | exact ⟨by decide, rfl⟩) (by assumption) ?_
        rw [zI_clampN (by omega), hv.1]
        refine sw_imul 23 dX10_oneSide_22 rfl ?_
        rw [zI_mul]
        refine sw_istore (lc' := [(0, _), (1, _), (2, _), (3, _), (5, _), (6, _)]) 25 dX10_oneSide_23 rfl (by decide) rfl ?_
        refine sw_iconst (v := zI 0) 26 dX10_oneSide_25 rfl (by decide) ?_
        refine sw_istore (lc' := [(0, _), (1, _), (2, _), (3, _), (5, _), (6, _), (7, _)]) 28 dX10_oneSide_26 rfl (by decide) rfl ?_
        refine inner (s * e j).toNat 0 j (sideZ p e s j) (by omega) (by simp) ?_
        refine sw_iinc (v := zI 1) (lc' := [(0, _), (1, _), (2, _), (3, _), (5, _)]) 55 dX10_oneSide_52 rfl (by decide) rfl rfl rfl ?_
        refine sw_goto 5 dX10_oneSide_55 (by decide) ?_
        rw [zI_add]
        exact ih (j + 1) (by omega)
  refine sw_lconst (v := zL 1) 1 dX10_oneSide_0 rfl (by decide) ?_
  refine sw_lstore_n (lc' := [(0, _), (1, _), (2, _), (3, _)]) 2 dX10_oneSide_1 rfl rfl (by decide) rfl ?_
  refine sw_iconst (v := zI 0) 3 dX10_oneSide_2 rfl (by decide) ?_
  refine sw_istore (lc' := [(0, _), (1, _), (2, _), (3, _), (5, _)]) 5 dX10_oneSide_3 rfl (by decide) rfl ?_
  exact loop n 0 (by omega)
theorem c_U_above (S : isU w u pu) (SB : isB w b pa ba) (V : atB h b pa ba n p bx) (VU : ∀ i, i < n → h.1 pu i = zI (e i) ∧ -100 ≤ e i ∧ e i ≤ 100) (hs : h.1 u 1 = zI sg) (hs2 : sg = 1 ∨ sg = -1) : sw_ct w X l (d + 1) mX10_above [.ref u, .ref b] h (sw_qL w X fun r h2 => h2 = h ∧ r = zL (sg * sideZ p e 1 n)) := by
  have S0 := S
  obtain ⟨s1, s2, s3, s4⟩ := S
  refine sw_ct_of (by decide +kernel) (Nat.le_of_ble_eq_true rfl) rfl ?_
  refine sw_aload_n 1 dX10_above_0 rfl rfl rfl ?_
  refine sw_getI 4 dX10_above_1 rfl gf_RX10_15 rfl (by first | assumption | exact ⟨by decide, rfl⟩) ?_
  rw [hs]
  refine sw_i2l 5 dX10_above_4 rfl ?_
  rw [zI_i2l (by omega) (by omega)]
  refine sw_aload_n 6 dX10_above_5 rfl rfl rfl ?_
  refine sw_aload_n 7 dX10_above_6 rfl rfl rfl ?_
  refine sw_iconst (v := zI 1) 8 dX10_above_7 rfl (by decide) ?_
  refine sw_invVL 11 dX10_above_8 rfl lk_RX10_37 (c_U_oneSide S0 SB V VU (Or.inl rfl)) (by first | assumption | exact ⟨by decide, rfl⟩) rfl rfl (Nat.le_of_ble_eq_true rfl) (fun r8 h8 hq8 => ?_)
  obtain ⟨rfl, rfl⟩ := hq8
  refine sw_lmul 12 dX10_above_11 rfl ?_
  exact sw_lret dX10_above_12 rfl (⟨rfl, by rw [zL_mul]⟩)
theorem c_U_below (S : isU w u pu) (SB : isB w b pa ba) (V : atB h b pa ba n p bx) (VU : ∀ i, i < n → h.1 pu i = zI (e i) ∧ -100 ≤ e i ∧ e i ≤ 100) : sw_ct w X l (d + 1) mX10_below [.ref u, .ref b] h (sw_qL w X fun r h2 => h2 = h ∧ r = zL (sideZ p e (-1) n)) := by
  have S0 := S
  obtain ⟨s1, s2, s3, s4⟩ := S
  refine sw_ct_of (by decide +kernel) (Nat.le_of_ble_eq_true rfl) rfl ?_
  refine sw_aload_n 1 dX10_below_0 rfl rfl rfl ?_
  refine sw_aload_n 2 dX10_below_1 rfl rfl rfl ?_
  refine sw_iconst (v := zI (-1)) 3 dX10_below_2 rfl (by decide) ?_
  refine sw_invVL 6 dX10_below_3 rfl lk_RX10_37 (c_U_oneSide S0 SB V VU (Or.inr rfl)) (by first | assumption | exact ⟨by decide, rfl⟩) rfl rfl (Nat.le_of_ble_eq_true rfl) (fun r3 h3 hq3 => ?_)
  obtain ⟨rfl, rfl⟩ := hq3
  exact sw_lret dX10_below_6 rfl (⟨rfl, rfl⟩)
def topZ (e : Nat → Int) : Nat → Int
  | 0 => 0
  | i + 1 => max (topZ e i) (e i).natAbs
theorem topZ_b {B : Nat} : ∀ m, (∀ i, i < m → (e i).natAbs ≤ B) → 0 ≤ topZ e m ∧ topZ e m ≤ B
  | 0, _ => ⟨Int.le_refl _, by show (0 : Int) ≤ B; omega⟩
  | m + 1, hb => by
    have := topZ_b m (fun i hi => hb i (by omega))
    have := hb m (by omega)
    unfold topZ
    omega
theorem c_U_greatestPower (S : isU w u pu) (VU : ∀ i, i < 4 → h.1 pu i = zI (e i) ∧ -1000 ≤ e i ∧ e i ≤ 1000) : sw_ct w X l (d + 1) mX10_greatestPower [.ref u] h (sw_qI w X fun r h2 => h2 = h ∧ r = zI (topZ e 4)) := by
  obtain ⟨s1, s2, s3, s4⟩ := S
  refine sw_ct_of (by decide +kernel) (Nat.le_of_ble_eq_true rfl) rfl ?_
  have loop : ∀ m j : Nat, j + m = 4 → ∀ lc9 : List (Nat × Value), sw_wp w X l (d + 1) mX10_greatestPower (sw_qI w X fun r h2 => h2 = h ∧ r = zI (topZ e 4)) 13 [(0, .ref u), (1, .int (zI (topZ e j))), (2, .ref pu), (3, .int (Int32.ofNat 4)), (4, .int (zI j))] [] h := by
    intro m
    induction m with
    | zero =>
      intro j hj lc9
      have : j = 4 := by omega
      subst this
      refine sw_iload 15 dX10_greatestPower_13 rfl rfl ?_
      refine sw_iload_n 16 dX10_greatestPower_15 rfl rfl rfl ?_
      refine sw_icmp_ge 41 19 dX10_greatestPower_16 (by decide) rfl (fun c16 => ?_) (fun c16 => ?_)
      · refine sw_iload_n 42 dX10_greatestPower_41 rfl rfl rfl ?_
        exact sw_iret dX10_greatestPower_42 rfl (⟨rfl, rfl⟩)
      · exact absurd (Int32.le_refl _) c16
    | succ m ih =>
      intro j hj lc9
      have hv := VU j (by omega)
      have hin : vp_in (zI j) 4 := zI_inN (by omega) (by omega)
      have ht := topZ_b (e := e) (B := 1000) j (fun i hi => by have := VU i (by omega); omega)
      refine sw_iload 15 dX10_greatestPower_13 rfl rfl ?_
      refine sw_iload_n 16 dX10_greatestPower_15 rfl rfl rfl ?_
      refine sw_icmp_ge 41 19 dX10_greatestPower_16 (by decide) rfl (fun c16 => ?_) (fun c16 => ?_)
      · exact absurd c16 (by rw [show Int32.ofNat 4 = zI 4 from rfl, zI_le (by omega) (by omega) (by omega) (by omega)]; omega)
      · refine sw_aload_n 20 dX10_greatestPower_19 rfl rfl rfl ?_
        refine sw_iload 22 dX10_greatestPower_20 rfl rfl ?_
        refine sw_iald 23 dX10_greatestPower_22 rfl (by first | assumption | exact ⟨by decide, rfl⟩) (by assumption) ?_
        rw [zI_clampN (by omega), hv.1]
        refine sw_istore (lc' := [(0, _), (1, _), (2, _), (3, _), (4, _), (5, _)]) 25 dX10_greatestPower_23 rfl (by decide) rfl ?_
        refine sw_iload_n 26 dX10_greatestPower_25 rfl rfl rfl ?_
        refine sw_iload 28 dX10_greatestPower_26 rfl rfl ?_
        refine sw_invSI 31 dX10_greatestPower_28 rfl lk_RX10_49 (c_absZ (by omega) (by omega)) rfl rfl (Nat.le_of_ble_eq_true rfl) (fun r28 h28 hq28 => ?_)
        obtain ⟨rfl, rfl⟩ := hq28
        refine sw_invSI 34 dX10_greatestPower_31 rfl lk_RX10_31 (c_maxZ (by omega) (by omega) (by omega) (by omega)) rfl rfl (Nat.le_of_ble_eq_true rfl) (fun r31 h31 hq31 => ?_)
        obtain ⟨rfl, rfl⟩ := hq31
        refine sw_istore_n (lc' := [(0, _), (1, _), (2, _), (3, _), (4, _), (5, _)]) 35 dX10_greatestPower_34 rfl rfl (by decide) rfl ?_
        refine sw_iinc (v := zI 1) (lc' := [(0, _), (1, _), (2, _), (3, _), (4, _), (5, _)]) 38 dX10_greatestPower_35 rfl (by decide) rfl rfl rfl ?_
        refine sw_goto 13 dX10_greatestPower_38 (by decide) ?_
        rw [zI_add]
        exact sw_wp_sub (by simp [topZ]) (ih (j + 1) (by omega) [])
  refine sw_iconst (v := zI 0) 1 dX10_greatestPower_0 rfl (by decide) ?_
  refine sw_istore_n (lc' := [(0, _), (1, _)]) 2 dX10_greatestPower_1 rfl rfl (by decide) rfl ?_
  refine sw_aload_n 3 dX10_greatestPower_2 rfl rfl rfl ?_
  refine sw_getR 6 dX10_greatestPower_3 rfl gf_RX10_9 (fun _ _ _ _ => rfl) (by first | assumption | exact ⟨by decide, rfl⟩) (by first | assumption | rfl) ?_
  refine sw_astore_n (lc' := [(0, _), (1, _), (2, _)]) 7 dX10_greatestPower_6 rfl rfl (by decide) rfl ?_
  refine sw_aload_n 8 dX10_greatestPower_7 rfl rfl rfl ?_
  refine sw_alen 9 dX10_greatestPower_8 rfl (by first | assumption | exact ⟨by decide, rfl⟩) (by decide) ?_
  refine sw_istore_n (lc' := [(0, _), (1, _), (2, _), (3, _)]) 10 dX10_greatestPower_9 rfl rfl (by decide) rfl ?_
  refine sw_iconst (v := zI 0) 11 dX10_greatestPower_10 rfl (by decide) ?_
  refine sw_istore (lc' := [(0, _), (1, _), (2, _), (3, _), (4, _)]) 13 dX10_greatestPower_11 rfl (by decide) rfl ?_
  exact loop 4 0 (by omega) []
theorem c_U_isInRange (S : isU w u pu) (VU : ∀ i, i < 4 → h.1 pu i = zI (e i) ∧ -1000 ≤ e i ∧ e i ≤ 1000) : sw_ct w X l (d + 2) mX10_isInRange [.ref u] h (sw_qI w X fun r h2 => h2 = h ∧ r = zI (if topZ e 4 ≤ 6 then 1 else 0)) := by
  have S0 := S
  obtain ⟨s1, s2, s3, s4⟩ := S
  have ht := topZ_b (e := e) (B := 1000) 4 (fun i hi => by have := VU i (by omega); omega)
  refine sw_ct_of (by decide +kernel) (Nat.le_of_ble_eq_true rfl) rfl ?_
  refine sw_aload_n 1 dX10_isInRange_0 rfl rfl rfl ?_
  refine sw_invVI 4 dX10_isInRange_1 rfl lk_RX10_53 (c_U_greatestPower S0 VU) (by first | assumption | exact ⟨by decide, rfl⟩) rfl rfl (Nat.le_of_ble_eq_true rfl) (fun r1 h1 hq1 => ?_)
  obtain ⟨rfl, rfl⟩ := hq1
  refine sw_bipush (v := zI 6) 6 dX10_isInRange_4 rfl (by decide) ?_
  refine sw_icmp_gt 13 9 dX10_isInRange_6 (by decide) rfl (fun c6 => ?_) (fun c6 => ?_)
  · refine sw_iconst (v := zI 0) 14 dX10_isInRange_13 rfl (by decide) ?_
    exact sw_zret (by first | exact Or.inl rfl | exact Or.inr rfl | assumption) dX10_isInRange_14 rfl (⟨rfl, by
  rw [zI_lt (by omega) (by omega) (by omega) (by omega)] at c6
  first | rw [if_pos (by omega)] | rw [if_neg (by omega)]⟩)
  · refine sw_iconst (v := zI 1) 10 dX10_isInRange_9 rfl (by decide) ?_
    refine sw_goto 14 dX10_isInRange_10 (by decide) ?_
    exact sw_zret (by first | exact Or.inl rfl | exact Or.inr rfl | assumption) dX10_isInRange_14 rfl (⟨rfl, by
  rw [zI_lt (by omega) (by omega) (by omega) (by omega)] at c6
  first | rw [if_pos (by omega)] | rw [if_neg (by omega)]⟩)
def inBoxZ (e bx : Nat → Int) : Nat → Nat → Bool
  | 0, _ => true
  | m + 1, i => if (e i).natAbs ≤ bx i then inBoxZ e bx m (i + 1) else false
theorem c_U_isWithin (S : isU w u pu) (SB : isB w b pa ba) (V : atB h b pa ba n p bx) (VU : ∀ i, i < n → h.1 pu i = zI (e i) ∧ -100 ≤ e i ∧ e i ≤ 100) : sw_ct w X l (d + 1) mX10_isWithin [.ref u, .ref b] h (sw_qI w X fun r h2 => h2 = h ∧ r = zI (if inBoxZ e bx n 0 then 1 else 0)) := by
  obtain ⟨s1, s2, s3, s4⟩ := S
  obtain ⟨q1, q2, q3, q4, q5, q6, q7, q8⟩ := SB
  obtain ⟨v3, v4, v5, v6⟩ := V
  refine sw_ct_of (by decide +kernel) (Nat.le_of_ble_eq_true rfl) rfl ?_
  have loop : ∀ m j : Nat, j + m = n → sw_wp w X l (d + 1) mX10_isWithin (sw_qI w X fun r h2 => h2 = h ∧ r = zI (if inBoxZ e bx m j then 1 else 0)) 2 [(0, .ref u), (1, .ref b), (2, .int (zI j))] [] h := by
    intro m
    induction m with
    | zero =>
      intro j hj
      have : j = n := by omega
      subst this
      refine sw_iload_n 3 dX10_isWithin_2 rfl rfl rfl ?_
      refine sw_aload_n 4 dX10_isWithin_3 rfl rfl rfl ?_
      refine sw_getI 7 dX10_isWithin_4 rfl gf_RX10_41 rfl (by first | assumption | exact ⟨by decide, rfl⟩) ?_
      rw [v3]
      refine sw_icmp_ge 36 10 dX10_isWithin_7 (by decide) rfl (fun c7 => ?_) (fun c7 => ?_)
      · refine sw_iconst (v := zI 1) 37 dX10_isWithin_36 rfl (by decide) ?_
        exact sw_zret (by first | exact Or.inl rfl | exact Or.inr rfl | assumption) dX10_isWithin_37 rfl (⟨rfl, rfl⟩)
      · exact absurd (Int32.le_refl _) c7
    | succ m ih =>
      intro j hj
      have hv := VU j (by omega)
      have hb := v6 j (by omega)
      have hin : vp_in (zI j) 4 := zI_inN (by omega) (by omega)
      have le : inBoxZ e bx (m + 1) j = if (e j).natAbs ≤ bx j then inBoxZ e bx m (j + 1) else false := rfl
      refine sw_iload_n 3 dX10_isWithin_2 rfl rfl rfl ?_
      refine sw_aload_n 4 dX10_isWithin_3 rfl rfl rfl ?_
      refine sw_getI 7 dX10_isWithin_4 rfl gf_RX10_41 rfl (by first | assumption | exact ⟨by decide, rfl⟩) ?_
      rw [v3]
      refine sw_icmp_ge 36 10 dX10_isWithin_7 (by decide) rfl (fun c7 => ?_) (fun c7 => ?_)
      · exact absurd c7 (by rw [zI_le (by omega) (by omega) (by omega) (by omega)]; omega)
      · refine sw_aload_n 11 dX10_isWithin_10 rfl rfl rfl ?_
        refine sw_getR 14 dX10_isWithin_11 rfl gf_RX10_9 (fun _ _ _ _ => rfl) (by first | assumption | exact ⟨by decide, rfl⟩) (by first | assumption | rfl) ?_
        refine sw_iload_n 15 dX10_isWithin_14 rfl rfl rfl ?_
        refine sw_iald 16 dX10_isWithin_15 rfl (by first | assumption | exact ⟨by decide, rfl⟩) (by assumption) ?_
        rw [zI_clampN (by omega), hv.1]
        refine sw_invSI 19 dX10_isWithin_16 rfl lk_RX10_49 (c_absZ (by omega) (by omega)) rfl rfl (Nat.le_of_ble_eq_true rfl) (fun r16 h16 hq16 => ?_)
        obtain ⟨rfl, rfl⟩ := hq16
        refine sw_aload_n 20 dX10_isWithin_19 rfl rfl rfl ?_
        refine sw_getR 23 dX10_isWithin_20 rfl gf_RX10_57 (fun _ _ _ _ => rfl) (by first | assumption | exact ⟨by decide, rfl⟩) (by first | assumption | rfl) ?_
        refine sw_iload_n 24 dX10_isWithin_23 rfl rfl rfl ?_
        refine sw_iald 25 dX10_isWithin_24 rfl (by first | assumption | exact ⟨by decide, rfl⟩) (by assumption) ?_
        rw [zI_clampN (by omega), hb.1]
        refine sw_icmp_le 30 28 dX10_isWithin_25 (by decide) rfl (fun c25 => ?_) (fun c25 => ?_)
        · refine sw_iinc (v := zI 1) (lc' := [(0, _), (1, _), (2, _)]) 33 dX10_isWithin_30 rfl (by decide) rfl rfl rfl ?_
          refine sw_goto 2 dX10_isWithin_33 (by decide) ?_
          rw [zI_le (by omega) (by omega) (by omega) (by omega)] at c25
          rw [if_pos c25] at le
          rw [zI_add, le]
          exact ih (j + 1) (by omega)
        · rw [zI_le (by omega) (by omega) (by omega) (by omega)] at c25
          rw [if_neg c25] at le
          refine sw_iconst (v := zI 0) 29 dX10_isWithin_28 rfl (by decide) ?_
          exact sw_zret (by first | exact Or.inl rfl | exact Or.inr rfl | assumption) dX10_isWithin_29 rfl (⟨rfl, by rw [le]; rfl⟩)
  refine sw_iconst (v := zI 0) 1 dX10_isWithin_0 rfl (by decide) ?_
  refine sw_istore_n (lc' := [(0, _), (1, _), (2, _)]) 2 dX10_isWithin_1 rfl rfl (by decide) rfl ?_
  exact loop n 0 (by omega)
theorem c_U_setProduct {v pv t pt : Nat} (S : isU w u pu) (S2 : isU w v pv) (S3 : isU w t pt) (e1 : pv ≠ pu) (e2 : pt ≠ pu) (e3 : v ≠ pu) (e4 : t ≠ pu) {ev et : Nat → Int} {sv st s : Int} (V2 : atU h v pv sv ev) (V3 : atU h t pt st et) : sw_ct w X l d mX10_setProduct [.ref u, .ref v, .ref t, .int (zI s)] h (sw_qV w X fun h2 => h2 = uH h u pu (fun i => if i < 4 then zI (ev i + s * et i) else h.1 pu i) (zI (sv * st))) := by
  have S0 := S
  obtain ⟨s1, s2, s3, s4⟩ := S
  obtain ⟨q1, q2, q3, q4⟩ := S2
  obtain ⟨r1, r2, r3, r4⟩ := S3
  refine sw_ct_of (by decide +kernel) (Nat.le_of_ble_eq_true rfl) rfl ?_
  generalize hQ : (sw_qV w X fun h2 => h2 = uH h u pu (fun i => if i < 4 then zI (ev i + s * et i) else h.1 pu i) (zI (sv * st))) = Qc
  have loop : ∀ m j : Nat, j + m = 4 → sw_wp w X l d mX10_setProduct Qc 3 [(0, .ref u), (1, .ref v), (2, .ref t), (3, .int (zI s)), (4, .int (zI j))] [] (sw_pI h pu (fun i => if i < j then zI (ev i + s * et i) else h.1 pu i)) := by
    intro m
    induction m with
    | zero =>
      intro j hj
      have : j = 4 := by omega
      subst this
      subst hQ
      refine sw_iload 5 dX10_setProduct_3 rfl rfl ?_
      refine sw_iconst (v := zI 4) 6 dX10_setProduct_5 rfl (by decide) ?_
      refine sw_icmp_ge 39 9 dX10_setProduct_6 (by decide) rfl (fun c6 => ?_) (fun c6 => ?_)
      · refine sw_aload_n 40 dX10_setProduct_39 rfl rfl rfl ?_
        refine sw_aload_n 41 dX10_setProduct_40 rfl rfl rfl ?_
        refine sw_getI 44 dX10_setProduct_41 rfl gf_RX10_15 rfl (by first | assumption | exact ⟨by decide, rfl⟩) ?_
        refine sw_aload_n 45 dX10_setProduct_44 rfl rfl rfl ?_
        refine sw_getI 48 dX10_setProduct_45 rfl gf_RX10_15 rfl (by first | assumption | exact ⟨by decide, rfl⟩) ?_
        refine sw_imul 49 dX10_setProduct_48 rfl ?_
        refine sw_putI 52 dX10_setProduct_49 rfl pf_RX10_15 rfl (by first | assumption | exact ⟨by decide, rfl⟩) ?_
        exact sw_vret dX10_setProduct_52 rfl (by rw [sw_pI_ne e3, sw_pI_ne e4, V2.1, V3.1, zI_mul]; rfl)
      · exact absurd (Int32.le_refl _) c6
    | succ m ih =>
      intro j hj
      have hin : vp_in (zI j) 4 := zI_inN (by omega) (by omega)
      refine sw_iload 5 dX10_setProduct_3 rfl rfl ?_
      refine sw_iconst (v := zI 4) 6 dX10_setProduct_5 rfl (by decide) ?_
      refine sw_icmp_ge 39 9 dX10_setProduct_6 (by decide) rfl (fun c6 => ?_) (fun c6 => ?_)
      · exact absurd c6 (by rw [zI_le (by omega) (by omega) (by omega) (by omega)]; omega)
      · refine sw_aload_n 10 dX10_setProduct_9 rfl rfl rfl ?_
        refine sw_getR 13 dX10_setProduct_10 rfl gf_RX10_9 (fun _ _ _ _ => rfl) (by first | assumption | exact ⟨by decide, rfl⟩) (by first | assumption | rfl) ?_
        refine sw_iload 15 dX10_setProduct_13 rfl rfl ?_
        refine sw_aload_n 16 dX10_setProduct_15 rfl rfl rfl ?_
        refine sw_getR 19 dX10_setProduct_16 rfl gf_RX10_9 (fun _ _ _ _ => rfl) (by first | assumption | exact ⟨by decide, rfl⟩) (by first | assumption | rfl) ?_
        refine sw_iload 21 dX10_setProduct_19 rfl rfl ?_
        refine sw_iald 22 dX10_setProduct_21 rfl (by first | assumption | exact ⟨by decide, rfl⟩) (by assumption) ?_
        refine sw_iload_n 23 dX10_setProduct_22 rfl rfl rfl ?_
        refine sw_aload_n 24 dX10_setProduct_23 rfl rfl rfl ?_
        refine sw_getR 27 dX10_setProduct_24 rfl gf_RX10_9 (fun _ _ _ _ => rfl) (by first | assumption | exact ⟨by decide, rfl⟩) (by first | assumption | rfl) ?_
        refine sw_iload 29 dX10_setProduct_27 rfl rfl ?_
        refine sw_iald 30 dX10_setProduct_29 rfl (by first | assumption | exact ⟨by decide, rfl⟩) (by assumption) ?_
        refine sw_imul 31 dX10_setProduct_30 rfl ?_
        refine sw_iadd 32 dX10_setProduct_31 rfl ?_
        refine sw_iast 33 dX10_setProduct_32 rfl (by first | assumption | exact ⟨by decide, rfl⟩) (by assumption) ?_
        refine sw_iinc (v := zI 1) (lc' := [(0, _), (1, _), (2, _), (3, _), (4, _)]) 36 dX10_setProduct_33 rfl (by decide) rfl rfl rfl ?_
        refine sw_goto 3 dX10_setProduct_36 (by decide) ?_
        rw [zI_clampN (by omega), sw_pI_ne e1, sw_pI_ne e2, V2.2 j (by omega), V3.2 j (by omega), zI_mul, zI_add, zI_add, sw_wI_pI]
        have e9 : (va_up (fun i => if i < j then zI (ev i + s * et i) else h.1 pu i) j (zI (ev j + s * et j))) = fun i => if i < j + 1 then zI (ev i + s * et i) else h.1 pu i := by
          funext k
          by_cases f1 : k = j
          · simp [va_up, f1]
          · have f2 : (k < j + 1) = (k < j) := by apply propext; omega
            simp [va_up, f1, f2]
        rw [e9]
        exact ih (j + 1) (by omega)
  refine sw_iconst (v := zI 0) 1 dX10_setProduct_0 rfl (by decide) ?_
  refine sw_istore (lc' := [(0, _), (1, _), (2, _), (3, _), (4, _)]) 3 dX10_setProduct_1 rfl (by decide) rfl ?_
  have e := loop 4 0 (by omega)
  rw [show (sw_pI h pu fun i => if i < 0 then zI (ev i + s * et i) else h.1 pu i) = h from sw_pI_self (by funext k; simp)] at e
  exact e
end sw_unit
