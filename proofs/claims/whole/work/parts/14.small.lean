/-! BYTES, SIEVES, SPLIT -/
section sw_tabs
variable {w : sw_W} {X : sw_X} {l : Launch} {d : Nat} {y : sw_M} {Qc : sw_Q} {pc : Nat} {lc : List (Nat × Value)} {st : List Value} {h : sw_H}
theorem sw_at_pc {a q : Nat} (e : a = q) (k : sw_wp w X l d y Qc q lc st h) : sw_wp w X l d y Qc a lc st h := e ▸ k
theorem sw_tab {dflt lo hi9 : Int} {offs : Array Int} {len : Nat} {a : Int32} (hd : decode y.2.1 pc = .ok (.tableswitch dflt lo hi9 offs, len)) (hz : hi9 + 1 = lo + (offs.size : Int) ∧ 0 ≤ (pc : Int) + dflt ∧ (∀ i : Fin offs.size, 0 ≤ (pc : Int) + offs[i]))
    (k : ∀ (i : Nat) (off : Int), offs[i]? = some off → a.toInt = lo + i → sw_wp w X l d y Qc ((pc : Int) + off).toNat lc st h) (ko : a.toInt < lo ∨ hi9 < a.toInt → sw_wp w X l d y Qc ((pc : Int) + dflt).toNat lc st h) : sw_wp w X l d y Qc pc lc (.int a :: st) h := by
  obtain ⟨z1, z2, z3⟩ := hz
  by_cases c1 : a.toInt < lo ∨ hi9 < a.toInt
  · exact sw_tabOut _ hd c1 (by omega) (ko c1)
  · have c2 : ¬ a.toInt < lo := fun q => c1 (Or.inl q)
    have c3 : ¬ hi9 < a.toInt := fun q => c1 (Or.inr q)
    have hlt : (a.toInt - lo).toNat < offs.size := by omega
    have hg : offs[(a.toInt - lo).toNat]? = some offs[(a.toInt - lo).toNat] := Array.getElem?_eq_getElem hlt
    have h0 := z3 ⟨(a.toInt - lo).toNat, hlt⟩
    exact sw_tabIn _ hd c2 c3 hg (by have h9 : 0 ≤ (pc : Int) + offs[(a.toInt - lo).toNat] := h0; omega) (k _ _ hg (by omega))
end sw_tabs
def isY (w : sw_W) (t row m : Nat) : Prop := sw_o w t 2 ∧ w.2.2 t 0 = row ∧ sw_r w row 0 m ∧ t ≠ row ∧ m < 2147483648
/-- the Bytes t with the row f and the size k -/
def yH (h : sw_H) (t row : Nat) (f : Nat → Int32) (k : Nat) : sw_H := sw_wI (sw_pI h row f) t 1 (zI k)
def appR (f : Nat → Int32) (k : Nat) (bs : List Int) : Nat → Int32 := fun i => if k ≤ i ∧ i < k + bs.length then zI (bs.getD (i - k) 0) else f i
theorem appR_nil (f : Nat → Int32) (k : Nat) : appR f k [] = f := by
  funext i; unfold appR; rw [if_neg (by simp)]
theorem appR_one (f : Nat → Int32) (k : Nat) (b : Int) : va_up f k (zI b) = appR f k [b] := by
  funext i
  unfold va_up appR
  by_cases e : i = k
  · subst e; rw [if_pos rfl, if_pos (by simp)]; simp
  · rw [if_neg e, if_neg (by simp; omega)]
theorem appR_app (f : Nat → Int32) (k : Nat) (a b : List Int) : appR (appR f k a) (k + a.length) b = appR f k (a ++ b) := by
  funext i
  unfold appR
  by_cases h1 : k + a.length ≤ i ∧ i < k + a.length + b.length
  · rw [if_pos h1, if_pos (by simp; omega)]
    congr 1
    rw [List.getD_eq_getElem?_getD, List.getD_eq_getElem?_getD, List.getElem?_append_right (by omega)]
    congr 2; omega
  · rw [if_neg h1]
    by_cases h2 : k ≤ i ∧ i < k + a.length
    · rw [if_pos h2, if_pos (by simp; omega)]
      congr 1
      rw [List.getD_eq_getElem?_getD, List.getD_eq_getElem?_getD, List.getElem?_append_left (by omega)]
    · rw [if_neg h2, if_neg (by simp; omega)]
section sw_small
variable {w : sw_W} {X : sw_X} {l : Launch} {d : Nat} {h : sw_H} {t row m k : Nat} {f : Nat → Int32}
theorem yH_size (S : isY w t row m) : (yH h t row f k).1 t 1 = zI k := by rw [yH, sw_wI_at]; simp [va_up]
theorem yH_row (S : isY w t row m) : (yH h t row f k).1 row = f := by rw [yH, sw_wI_ne S.2.2.2.1.symm, sw_pI_at]
theorem yH_other {a : Nat} (h1 : a ≠ t) (h2 : a ≠ row) : (yH h t row f k).1 a = h.1 a := by rw [yH, sw_wI_ne h1, sw_pI_ne h2]
theorem yH_self (S : isY w t row m) {k : Nat} (hk : h.1 t 1 = zI k) : h = yH h t row (h.1 row) k := by
  rw [yH, sw_pI_self rfl, sw_wI_p]
  refine (sw_pI_self ?_).symm
  funext i
  by_cases e : i = 1
  · subst e; simp [va_up, hk]
  · simp [va_up, e]
theorem yH_up (S : isY w t row m) {i : Nat} {x : Int32} : sw_wI (yH h t row f k) row i x = yH h t row (va_up f i x) k := by
  rw [sw_wI_p, yH_row S]
  unfold yH
  rw [sw_wI_p, sw_wI_p, sw_pI_ne S.2.2.2.1, sw_pI_ne S.2.2.2.1, sw_pI_comm S.2.2.2.1, sw_pI_pI]
theorem yH_sz (S : isY w t row m) {j : Nat} : sw_wI (yH h t row f k) t 1 (zI j) = yH h t row f j := by
  unfold yH
  rw [sw_wI_p, sw_wI_p, sw_wI_p, sw_pI_at, sw_pI_pI, sw_pI_ne S.2.2.2.1]
  congr 1
  funext i
  by_cases e : i = 1 <;> simp [va_up, e]
theorem c_Y_add (S : isY w t row m) (hk : k < m) (x : Int) : sw_ct w X l d mX2_add [.ref t, .int (zI x)] (yH h t row f k) (sw_qI w X fun r h2 => h2 = yH h t row (appR f k [x]) (k + 1) ∧ r = zI 1) := by
  have S0 := S
  obtain ⟨s1, s2, s3, s4, s5⟩ := S
  have hin : vp_in (zI k) m := zI_inN hk s5
  refine sw_ct_of (by decide +kernel) (Nat.le_of_ble_eq_true rfl) rfl ?_
  refine sw_aload_n 1 dX2_add_0 rfl rfl rfl ?_
  refine sw_getI 4 dX2_add_1 rfl gf_RX2_19 rfl (by first | assumption | exact ⟨by decide, rfl⟩) ?_
  rw [yH_size S0]
  refine sw_aload_n 5 dX2_add_4 rfl rfl rfl ?_
  refine sw_getR 8 dX2_add_5 rfl gf_RX2_13 (fun _ _ _ _ => rfl) (by first | assumption | exact ⟨by decide, rfl⟩) (by first | assumption | rfl) ?_
  refine sw_alen 9 dX2_add_8 rfl (by first | assumption | exact ⟨by decide, rfl⟩) (by decide) ?_
  refine sw_icmp_lt 14 12 dX2_add_9 (by decide) rfl (fun c9 => ?_) (fun c9 => ?_)
  · refine sw_aload_n 15 dX2_add_14 rfl rfl rfl ?_
    refine sw_getR 18 dX2_add_15 rfl gf_RX2_13 (fun _ _ _ _ => rfl) (by first | assumption | exact ⟨by decide, rfl⟩) (by first | assumption | rfl) ?_
    refine sw_aload_n 19 dX2_add_18 rfl rfl rfl ?_
    refine sw_getI 22 dX2_add_19 rfl gf_RX2_19 rfl (by first | assumption | exact ⟨by decide, rfl⟩) ?_
    rw [yH_size S0]
    refine sw_iload_n 23 dX2_add_22 rfl rfl rfl ?_
    refine sw_iast 24 dX2_add_23 rfl (by first | assumption | exact ⟨by decide, rfl⟩) (by assumption) ?_
    rw [zI_clampN (by omega), yH_up S0]
    refine sw_aload_n 25 dX2_add_24 rfl rfl rfl ?_
    refine sw_dup 26 dX2_add_25 rfl rfl ?_
    refine sw_getI 29 dX2_add_26 rfl gf_RX2_19 rfl (by first | assumption | exact ⟨by decide, rfl⟩) ?_
    rw [yH_size S0]
    refine sw_iconst (v := zI 1) 30 dX2_add_29 rfl (by decide) ?_
    refine sw_iadd 31 dX2_add_30 rfl ?_
    rw [zI_add]
    refine sw_putI 34 dX2_add_31 rfl pf_RX2_19 rfl (by first | assumption | exact ⟨by decide, rfl⟩) ?_
    refine sw_iconst (v := zI 1) 35 dX2_add_34 rfl (by decide) ?_
    exact sw_zret (by first | exact Or.inl rfl | exact Or.inr rfl | assumption) dX2_add_35 rfl (⟨by rw [show ((k : Int) + 1) = ((k + 1 : Nat) : Int) from rfl, yH_sz S0, appR_one], rfl⟩)
  · exact absurd (by rw [show Int32.ofNat m = zI m from nI_z m, zI_lt (by omega) (by omega) (by omega) (by omega)]; omega) c9
theorem c_Y_at (S : isY w t row m) (hk : k ≤ m) {i : Int} (i1 : -2147483648 ≤ i) (i2 : i < 2147483648) : sw_ct w X l d mX2_at [.ref t, .int (zI i)] (yH h t row f k) (sw_qI w X fun r h2 => h2 = yH h t row f k ∧ r = if 0 ≤ i ∧ i < k then f i.toNat else zI 0) := by
  have S0 := S
  obtain ⟨s1, s2, s3, s4, s5⟩ := S
  refine sw_ct_of (by decide +kernel) (Nat.le_of_ble_eq_true rfl) rfl ?_
  refine sw_iload_n 1 dX2_at_0 rfl rfl rfl ?_
  refine sw_if_lt 21 4 dX2_at_1 (by decide) rfl (fun c1 => ?_) (fun c1 => ?_)
  · refine sw_iconst (v := zI 0) 22 dX2_at_21 rfl (by decide) ?_
    exact sw_iret dX2_at_22 rfl (⟨rfl, by
  first
  | rw [if_pos (by omega)]
  | (rw [z0, zI_lt (by omega) (by omega) (by omega) (by omega)] at c1; rw [if_neg (by omega)])
  | (rw [zI_le (by omega) (by omega) (by omega) (by omega)] at c9; rw [if_neg (by omega)])⟩)
  · refine sw_iload_n 5 dX2_at_4 rfl rfl rfl ?_
    refine sw_aload_n 6 dX2_at_5 rfl rfl rfl ?_
    refine sw_getI 9 dX2_at_6 rfl gf_RX2_19 rfl (by first | assumption | exact ⟨by decide, rfl⟩) ?_
    rw [yH_size S0]
    refine sw_icmp_ge 21 12 dX2_at_9 (by decide) rfl (fun c9 => ?_) (fun c9 => ?_)
    · refine sw_iconst (v := zI 0) 22 dX2_at_21 rfl (by decide) ?_
      exact sw_iret dX2_at_22 rfl (⟨rfl, by
  first
  | rw [if_pos (by omega)]
  | (rw [z0, zI_lt (by omega) (by omega) (by omega) (by omega)] at c1; rw [if_neg (by omega)])
  | (rw [zI_le (by omega) (by omega) (by omega) (by omega)] at c9; rw [if_neg (by omega)])⟩)
    · rw [z0, zI_lt (by omega) (by omega) (by omega) (by omega)] at c1
      rw [zI_le (by omega) (by omega) (by omega) (by omega)] at c9
      have hin : vp_in (zI i) m := zI_in (by omega) (by omega) s5
      refine sw_aload_n 13 dX2_at_12 rfl rfl rfl ?_
      refine sw_getR 16 dX2_at_13 rfl gf_RX2_13 (fun _ _ _ _ => rfl) (by first | assumption | exact ⟨by decide, rfl⟩) (by first | assumption | rfl) ?_
      refine sw_iload_n 17 dX2_at_16 rfl rfl rfl ?_
      refine sw_iald 18 dX2_at_17 rfl (by first | assumption | exact ⟨by decide, rfl⟩) (by assumption) ?_
      rw [zI_clamp (by omega) (by omega), yH_row S0]
      refine sw_goto 22 dX2_at_18 (by decide) ?_
      exact sw_iret dX2_at_22 rfl (⟨rfl, by
  first
  | rw [if_pos (by omega)]
  | (rw [z0, zI_lt (by omega) (by omega) (by omega) (by omega)] at c1; rw [if_neg (by omega)])
  | (rw [zI_le (by omega) (by omega) (by omega) (by omega)] at c9; rw [if_neg (by omega)])⟩)
theorem c_Y_clear (S : isY w t row m) : sw_ct w X l d mX2_clear [.ref t] (yH h t row f k) (sw_qV w X fun h2 => h2 = yH h t row f 0) := by
  have S0 := S
  obtain ⟨s1, s2, s3, s4, s5⟩ := S
  refine sw_ct_of (by decide +kernel) (Nat.le_of_ble_eq_true rfl) rfl ?_
  refine sw_aload_n 1 dX2_clear_0 rfl rfl rfl ?_
  refine sw_iconst (v := zI 0) 2 dX2_clear_1 rfl (by decide) ?_
  refine sw_putI 5 dX2_clear_2 rfl pf_RX2_19 rfl (by first | assumption | exact ⟨by decide, rfl⟩) ?_
  exact sw_vret dX2_clear_5 rfl (by rw [show (0 : Int) = ((0 : Nat) : Int) from rfl, yH_sz S0])
-- Sieves
def isS (w : sw_W) (s row : Nat) : Prop := sw_o w s 7 ∧ w.2.2 s 0 = row ∧ sw_r w row 0 4 ∧ s ≠ row
variable {s n : Nat} {q : Nat → Int}
theorem c_S_removeAt (S : isS w s row) (V : h.1 s 1 = zI n) (hn : n ≤ 4) {k : Nat} (hk : k < n) : sw_ct w X l d mX7_removeAt [.ref s, .int (zI k)] h (sw_qV w X fun h2 => h2 = sw_wI (sw_pI h row (rmR k (n - 1) (h.1 row))) s 1 (zI (n - 1 : Nat))) := by
  obtain ⟨s1, s2, s3, s4⟩ := S
  refine sw_ct_of (by decide +kernel) (Nat.le_of_ble_eq_true rfl) rfl ?_
  generalize hQ : (sw_qV w X fun h2 => h2 = sw_wI (sw_pI h row (rmR k (n - 1) (h.1 row))) s 1 (zI (n - 1 : Nat))) = Qc
  have e3 : zI (n : Nat) - zI 1 = zI (n - 1 : Nat) := by rw [zI_sub]; congr 1; omega
  have loop : ∀ m j : Nat, j + m = n - 1 → k ≤ j → sw_wp w X l d mX7_removeAt Qc 2 [(0, .ref s), (1, .int (zI k)), (2, .int (zI j))] [] (sw_pI h row (rmR k j (h.1 row))) := by
    intro m
    induction m with
    | zero =>
      intro j hj hkj
      have : j = n - 1 := by omega
      subst this
      subst hQ
      refine sw_iload_n 3 dX7_removeAt_2 rfl rfl rfl ?_
      refine sw_aload_n 4 dX7_removeAt_3 rfl rfl rfl ?_
      refine sw_getI 7 dX7_removeAt_4 rfl gf_RX7_19 rfl (by first | assumption | exact ⟨by decide, rfl⟩) ?_
      rw [sw_pI_ne s4, V]
      refine sw_iconst (v := zI 1) 8 dX7_removeAt_7 rfl (by decide) ?_
      refine sw_isub 9 dX7_removeAt_8 rfl ?_
      rw [e3]
      refine sw_icmp_ge 32 12 dX7_removeAt_9 (by decide) rfl (fun c9 => ?_) (fun c9 => ?_)
      · refine sw_aload_n 33 dX7_removeAt_32 rfl rfl rfl ?_
        refine sw_dup 34 dX7_removeAt_33 rfl rfl ?_
        refine sw_getI 37 dX7_removeAt_34 rfl gf_RX7_19 rfl (by first | assumption | exact ⟨by decide, rfl⟩) ?_
        refine sw_iconst (v := zI 1) 38 dX7_removeAt_37 rfl (by decide) ?_
        refine sw_isub 39 dX7_removeAt_38 rfl ?_
        refine sw_putI 42 dX7_removeAt_39 rfl pf_RX7_19 rfl (by first | assumption | exact ⟨by decide, rfl⟩) ?_
        exact sw_vret dX7_removeAt_42 rfl (by rw [sw_pI_ne s4, V, e3])
      · exact absurd (Int32.le_refl _) c9
    | succ m ih =>
      intro j hj hkj
      have hin : vp_in (zI j) 4 := zI_inN (by omega) (by omega)
      have e4 : zI j + zI 1 = zI (j + 1 : Nat) := by rw [zI_add]; rfl
      have hin2 : vp_in (zI j + zI 1) 4 := by rw [e4]; exact zI_inN (by omega) (by omega)
      refine sw_iload_n 3 dX7_removeAt_2 rfl rfl rfl ?_
      refine sw_aload_n 4 dX7_removeAt_3 rfl rfl rfl ?_
      refine sw_getI 7 dX7_removeAt_4 rfl gf_RX7_19 rfl (by first | assumption | exact ⟨by decide, rfl⟩) ?_
      rw [sw_pI_ne s4, V]
      refine sw_iconst (v := zI 1) 8 dX7_removeAt_7 rfl (by decide) ?_
      refine sw_isub 9 dX7_removeAt_8 rfl ?_
      refine sw_icmp_ge 32 12 dX7_removeAt_9 (by decide) rfl (fun c9 => ?_) (fun c9 => ?_)
      · exact absurd c9 (by rw [e3, zI_le (by omega) (by omega) (by omega) (by omega)]; omega)
      · refine sw_aload_n 13 dX7_removeAt_12 rfl rfl rfl ?_
        refine sw_getR 16 dX7_removeAt_13 rfl gf_RX7_9 (fun _ _ _ _ => rfl) (by first | assumption | exact ⟨by decide, rfl⟩) (by first | assumption | rfl) ?_
        refine sw_iload_n 17 dX7_removeAt_16 rfl rfl rfl ?_
        refine sw_aload_n 18 dX7_removeAt_17 rfl rfl rfl ?_
        refine sw_getR 21 dX7_removeAt_18 rfl gf_RX7_9 (fun _ _ _ _ => rfl) (by first | assumption | exact ⟨by decide, rfl⟩) (by first | assumption | rfl) ?_
        refine sw_iload_n 22 dX7_removeAt_21 rfl rfl rfl ?_
        refine sw_iconst (v := zI 1) 23 dX7_removeAt_22 rfl (by decide) ?_
        refine sw_iadd 24 dX7_removeAt_23 rfl ?_
        refine sw_iald 25 dX7_removeAt_24 rfl (by first | assumption | exact ⟨by decide, rfl⟩) (by assumption) ?_
        refine sw_iast 26 dX7_removeAt_25 rfl (by first | assumption | exact ⟨by decide, rfl⟩) (by assumption) ?_
        refine sw_iinc (v := zI 1) (lc' := [(0, _), (1, _), (2, _)]) 29 dX7_removeAt_26 rfl (by decide) rfl rfl rfl ?_
        refine sw_goto 2 dX7_removeAt_29 (by decide) ?_
        rw [e4, zI_clampN (show j + 1 < 2147483648 by omega), zI_clampN (show j < 2147483648 by omega), sw_wI_pI, sw_pI_at, rmR_step hkj]
        exact ih (j + 1) (by omega) (by omega)
  refine sw_iload_n 1 dX7_removeAt_0 rfl rfl rfl ?_
  refine sw_istore_n (lc' := [(0, _), (1, _), (2, _)]) 2 dX7_removeAt_1 rfl rfl (by decide) rfl ?_
  have e := loop (n - 1 - k) k (by omega) (Nat.le_refl k)
  rw [rmR_self, sw_pI_self rfl] at e
  exact e
/-- what remove(v) leaves -/
def sRm (h : sw_H) (s row n : Nat) (j : Int) : sw_H := if j = -1 then h else sw_wI (sw_pI h row (rmR j.toNat (n - 1) (h.1 row))) s 1 (zI (n - 1 : Nat))
theorem c_S_remove (S : isS w s row) (V : h.1 s 1 = zI n) (hn : n ≤ 4) (W9 : ∀ i, i < n → h.1 row i = zI (q i) ∧ 3 ≤ q i ∧ q i ≤ 97) {v : Int} (v1 : -2147483648 ≤ v) (v2 : v < 2147483648) : sw_ct w X l (d + 1) mX7_remove [.ref s, .int (zI v)] h (sw_qI w X fun r h2 => h2 = sRm h s row n (fndZ q v n 0) ∧ r = zI (if fndZ q v n 0 = -1 then 0 else 1)) := by
  have S0 := S
  obtain ⟨s1, s2, s3, s4⟩ := S
  refine sw_ct_of (by decide +kernel) (Nat.le_of_ble_eq_true rfl) rfl ?_
  have loop : ∀ m j : Nat, j + m = n → sw_wp w X l (d + 1) mX7_remove (sw_qI w X fun r h2 => h2 = sRm h s row n (fndZ q v m j) ∧ r = zI (if fndZ q v m j = -1 then 0 else 1)) 2 [(0, .ref s), (1, .int (zI v)), (2, .int (zI j))] [] h := by
    intro m
    induction m with
    | zero =>
      intro j hj
      have : j = n := by omega
      subst this
      refine sw_iload_n 3 dX7_remove_2 rfl rfl rfl ?_
      refine sw_aload_n 4 dX7_remove_3 rfl rfl rfl ?_
      refine sw_getI 7 dX7_remove_4 rfl gf_RX7_19 rfl (by first | assumption | exact ⟨by decide, rfl⟩) ?_
      rw [V]
      refine sw_icmp_ge 33 10 dX7_remove_7 (by decide) rfl (fun c7 => ?_) (fun c7 => ?_)
      · refine sw_iconst (v := zI 0) 34 dX7_remove_33 rfl (by decide) ?_
        exact sw_zret (by first | exact Or.inl rfl | exact Or.inr rfl | assumption) dX7_remove_34 rfl (⟨rfl, rfl⟩)
      · exact absurd (Int32.le_refl _) c7
    | succ m ih =>
      intro j hj
      have hin : vp_in (zI j) 4 := zI_inN (by omega) (by omega)
      have hv := W9 j (by omega)
      unfold fndZ
      refine sw_iload_n 3 dX7_remove_2 rfl rfl rfl ?_
      refine sw_aload_n 4 dX7_remove_3 rfl rfl rfl ?_
      refine sw_getI 7 dX7_remove_4 rfl gf_RX7_19 rfl (by first | assumption | exact ⟨by decide, rfl⟩) ?_
      rw [V]
      refine sw_icmp_ge 33 10 dX7_remove_7 (by decide) rfl (fun c7 => ?_) (fun c7 => ?_)
      · exact absurd c7 (by rw [zI_le (by omega) (by omega) (by omega) (by omega)]; omega)
      · refine sw_aload_n 11 dX7_remove_10 rfl rfl rfl ?_
        refine sw_getR 14 dX7_remove_11 rfl gf_RX7_9 (fun _ _ _ _ => rfl) (by first | assumption | exact ⟨by decide, rfl⟩) (by first | assumption | rfl) ?_
        refine sw_iload_n 15 dX7_remove_14 rfl rfl rfl ?_
        refine sw_iald 16 dX7_remove_15 rfl (by first | assumption | exact ⟨by decide, rfl⟩) (by assumption) ?_
        refine sw_iload_n 17 dX7_remove_16 rfl rfl rfl ?_
        rw [zI_clampN (by omega), hv.1]
        refine sw_icmp_ne 27 20 dX7_remove_17 (by decide) rfl (fun c17 => ?_) (fun c17 => ?_)
        · rw [zI_eq (by omega) (by omega) (by omega) (by omega)] at c17
          rw [if_neg c17]
          refine sw_iinc (v := zI 1) (lc' := [(0, _), (1, _), (2, _)]) 30 dX7_remove_27 rfl (by decide) rfl rfl rfl ?_
          refine sw_goto 2 dX7_remove_30 (by decide) ?_
          rw [zI_add]
          exact ih (j + 1) (by omega)
        · rw [zI_eq (by omega) (by omega) (by omega) (by omega)] at c17
          rw [if_pos c17]
          refine sw_aload_n 21 dX7_remove_20 rfl rfl rfl ?_
          refine sw_iload_n 22 dX7_remove_21 rfl rfl rfl ?_
          refine sw_invVV 25 dX7_remove_22 rfl lk_RX7_23 (c_S_removeAt S0 V hn (show j < n by omega)) (by first | assumption | exact ⟨by decide, rfl⟩) rfl rfl (Nat.le_of_ble_eq_true rfl) (fun h22 hq22 => ?_)
          subst hq22
          refine sw_iconst (v := zI 1) 26 dX7_remove_25 rfl (by decide) ?_
          exact sw_zret (by first | exact Or.inl rfl | exact Or.inr rfl | assumption) dX7_remove_26 rfl (⟨by rw [sRm, if_neg (by omega)]; rfl, by rw [if_neg (by omega)]⟩)
  refine sw_iconst (v := zI 0) 1 dX7_remove_0 rfl (by decide) ?_
  refine sw_istore_n (lc' := [(0, _), (1, _), (2, _)]) 2 dX7_remove_1 rfl rfl (by decide) rfl ?_
  exact loop n 0 (by omega)
def delF (j : Nat) (q : Nat → Int) : Nat → Int := fun i => if j ≤ i then q (i + 1) else q i
def rmS (n : Nat) (q : Nat → Int) (j : Int) : Nat × (Nat → Int) := if j = -1 then (n, q) else (n - 1, delF j.toNat q)
def capS (z : Nat × (Nat → Int)) : Nat × (Nat → Int) := if 4 ≤ z.1 then (z.1 - 1, delF 0 z.2) else z
def pushS (z : Nat × (Nat → Int)) (v : Int) : Nat × (Nat → Int) := (z.1 + 1, fun i => if i = z.1 then v else z.2 i)
def askS (n : Nat) (q : Nat → Int) (v : Int) : Nat × (Nat → Int) := pushS (capS (rmS n q (fndZ q v n 0))) v
/-- Sieves s with these -/
def atS (h : sw_H) (s row : Nat) (z : Nat × (Nat → Int)) : Prop := h.1 s 1 = zI z.1 ∧ ∀ i, i < z.1 → h.1 row i = zI (z.2 i)
theorem rmR_del {k n i : Nat} {f : Nat → Int32} {q : Nat → Int} (hk : k < n) (hf : ∀ i, i < n → f i = zI (q i)) (hi : i < n - 1) : rmR k (n - 1) f i = zI (delF k q i) := by
  unfold rmR delF
  by_cases e : k ≤ i
  · rw [if_pos ⟨e, hi⟩, if_pos e, hf _ (by omega)]
  · rw [if_neg (by omega), if_neg e, hf _ (by omega)]
theorem sRm_at (S : isS w s row) (V : atS h s row (n, q)) (j : Int) (hj : j = -1 ∨ (0 ≤ j ∧ j < n)) : atS (sRm h s row n j) s row (rmS n q j) ∧ ∃ f k, sRm h s row n j = sw_wI (sw_pI h row f) s 1 k := by
  unfold sRm rmS
  by_cases e : j = -1
  · rw [if_pos e, if_pos e]
    refine ⟨V, h.1 row, h.1 s 1, ?_⟩
    rw [sw_pI_self rfl, sw_wI_p]
    refine (sw_pI_self ?_).symm
    funext i; by_cases e : i = 1 <;> simp [va_up, e]
  · rw [if_neg e, if_neg e]
    refine ⟨⟨?_, fun i hi => ?_⟩, _, _, rfl⟩
    · rw [sw_wI_at]; simp [va_up]
    · rw [sw_wI_ne S.2.2.2.symm, sw_pI_at]
      exact rmR_del (by omega) V.2 hi
theorem fndZ_in (q : Nat → Int) (v : Int) : ∀ m i : Nat, fndZ q v m i = -1 ∨ ((i : Int) ≤ fndZ q v m i ∧ fndZ q v m i < i + m)
  | 0, i => Or.inl rfl
  | m + 1, i => by
    unfold fndZ
    by_cases e : q i = v
    · rw [if_pos e]; right; omega
    · rw [if_neg e]
      rcases fndZ_in q v m (i + 1) with h | h
      · left; exact h
      · right; omega
theorem rmS_le {j : Int} : (rmS n q j).1 ≤ n := by
  unfold rmS; split <;> simp
theorem c_S_ask (S : isS w s row) (V : h.1 s 1 = zI n) (hn : n ≤ 4) (W9 : ∀ i, i < n → h.1 row i = zI (q i) ∧ 3 ≤ q i ∧ q i ≤ 97) {v : Int} (v1 : -2147483648 ≤ v) (v2 : v < 2147483648) : sw_ct w X l (d + 2) mX7_ask [.ref s, .int (zI v)] h (sw_qV w X fun h2 => atS h2 s row (askS n q v) ∧ ∃ f k, h2 = sw_wI (sw_pI h row f) s 1 k) := by
  have S0 := S
  obtain ⟨s1, s2, s3, s4⟩ := S
  obtain ⟨A1, f1, k1, A2⟩ := sRm_at S0 (q := q) ⟨V, fun i hi => (W9 i hi).1⟩ (fndZ q v n 0) (by have := fndZ_in q v n 0; omega)
  have hz := rmS_le (n := n) (q := q) (j := fndZ q v n 0)
  have ea : askS n q v = pushS (capS (rmS n q (fndZ q v n 0))) v := rfl
  generalize rmS n q (fndZ q v n 0) = z at A1 hz ea
  obtain ⟨B1, B2⟩ := A1
  have norm : ∀ (f g : Nat → Int32) (k k' : Int32), sw_wI (sw_pI (sw_wI (sw_pI h row f) s 1 k) row g) s 1 k' = sw_wI (sw_pI h row g) s 1 k' := by
    intro f g k k'
    rw [sw_wI_p, sw_wI_p, sw_wI_p, sw_pI_ne s4, sw_pI_ne s4, sw_pI_ne s4, sw_pI_comm s4, sw_pI_pI, sw_pI_at, sw_pI_pI]
    congr 1; funext i; by_cases e : i = 1 <;> simp [va_up, e]
  have tail : ∀ (g : sw_H) (z2 : Nat × (Nat → Int)), z2.1 < 4 → atS g s row z2 → (∃ f k, g = sw_wI (sw_pI h row f) s 1 k) → sw_wp w X l (d + 2) mX7_ask (sw_qV w X fun h2 => atS h2 s row (pushS z2 v) ∧ ∃ f k, h2 = sw_wI (sw_pI h row f) s 1 k) 19 [(0, .ref s), (1, .int (zI v))] [] g := by
    intro g z2 hz2 ⟨C1, C2⟩ ⟨f2, k2, C3⟩
    have hin : vp_in (zI z2.1) 4 := zI_inN (by omega) (by omega)
    refine sw_aload_n 20 dX7_ask_19 rfl rfl rfl ?_
    refine sw_getR 23 dX7_ask_20 rfl gf_RX7_9 (fun _ _ _ _ => rfl) (by first | assumption | exact ⟨by decide, rfl⟩) (by first | assumption | rfl) ?_
    refine sw_aload_n 24 dX7_ask_23 rfl rfl rfl ?_
    refine sw_getI 27 dX7_ask_24 rfl gf_RX7_19 rfl (by first | assumption | exact ⟨by decide, rfl⟩) ?_
    rw [C1]
    refine sw_iload_n 28 dX7_ask_27 rfl rfl rfl ?_
    refine sw_iast 29 dX7_ask_28 rfl (by first | assumption | exact ⟨by decide, rfl⟩) (by assumption) ?_
    rw [zI_clampN (by omega)]
    refine sw_aload_n 30 dX7_ask_29 rfl rfl rfl ?_
    refine sw_dup 31 dX7_ask_30 rfl rfl ?_
    refine sw_getI 34 dX7_ask_31 rfl gf_RX7_19 rfl (by first | assumption | exact ⟨by decide, rfl⟩) ?_
    rw [sw_wI_ne s4, C1]
    refine sw_iconst (v := zI 1) 35 dX7_ask_34 rfl (by decide) ?_
    refine sw_iadd 36 dX7_ask_35 rfl ?_
    rw [zI_add]
    refine sw_putI 39 dX7_ask_36 rfl pf_RX7_19 rfl (by first | assumption | exact ⟨by decide, rfl⟩) ?_
    exact sw_vret dX7_ask_39 rfl (⟨⟨by rw [sw_wI_at]; simp [va_up, pushS], fun i hi => by
  rw [sw_wI_ne s4.symm, sw_wI_at]
  unfold pushS at hi ⊢
  by_cases e : i = z2.1
  · simp [va_up, e]
  · simp only [va_up, if_neg e]; exact C2 i (by simp at hi; omega)⟩, by
  refine ⟨va_up (g.1 row) z2.1 (zI v), zI (z2.1 + 1), ?_⟩
  rw [sw_wI_p (h := g), C3, norm]⟩)
  refine sw_ct_of (by decide +kernel) (Nat.le_of_ble_eq_true rfl) rfl ?_
  rw [ea]
  refine sw_aload_n 1 dX7_ask_0 rfl rfl rfl ?_
  refine sw_iload_n 2 dX7_ask_1 rfl rfl rfl ?_
  refine sw_invVI 5 dX7_ask_2 rfl lk_RX7_15 (c_S_remove S0 V hn W9 v1 v2) (by first | assumption | exact ⟨by decide, rfl⟩) rfl rfl (Nat.le_of_ble_eq_true rfl) (fun r2 h2 hq2 => ?_)
  obtain ⟨rfl, rfl⟩ := hq2
  refine sw_pop 6 dX7_ask_5 rfl rfl ?_
  refine sw_aload_n 7 dX7_ask_6 rfl rfl rfl ?_
  refine sw_getI 10 dX7_ask_7 rfl gf_RX7_19 rfl (by first | assumption | exact ⟨by decide, rfl⟩) ?_
  rw [B1]
  refine sw_iconst (v := zI 4) 11 dX7_ask_10 rfl (by decide) ?_
  refine sw_icmp_lt 19 14 dX7_ask_11 (by decide) rfl (fun c11 => ?_) (fun c11 => ?_)
  · first
    | (rw [show capS z = (4 - 1, delF 0 z.2) by unfold capS; rw [if_pos (by omega), hz4]]
       refine tail _ _ (by simp) ⟨by rw [sw_wI_at]; simp [va_up], fun i hi => ?_⟩ ⟨_, _, by rw [A2, norm]⟩
       rw [sw_wI_ne s4.symm, sw_pI_at]
       exact rmR_del (n := 4) (by omega) (fun i hi => B2 i (by omega)) hi)
    | (rw [zI_lt (by omega) (by omega) (by omega) (by omega)] at c11
       rw [show capS z = z by unfold capS; rw [if_neg (by omega)]]
       exact tail _ z (by omega) ⟨B1, B2⟩ ⟨f1, k1, A2⟩)
  · rw [zI_lt (by omega) (by omega) (by omega) (by omega)] at c11
    have hz4 : z.1 = 4 := by omega
    refine sw_aload_n 15 dX7_ask_14 rfl rfl rfl ?_
    refine sw_iconst (v := zI 0) 16 dX7_ask_15 rfl (by decide) ?_
    refine sw_invVV 19 dX7_ask_16 rfl lk_RX7_23 (c_S_removeAt (k := 0) (n := 4) S0 (by rw [B1, hz4]) (by omega) (by omega)) (by first | assumption | exact ⟨by decide, rfl⟩) rfl rfl (Nat.le_of_ble_eq_true rfl) (fun h16 hq16 => ?_)
    subst hq16
    first
    | (rw [show capS z = (4 - 1, delF 0 z.2) by unfold capS; rw [if_pos (by omega), hz4]]
       refine tail _ _ (by simp) ⟨by rw [sw_wI_at]; simp [va_up], fun i hi => ?_⟩ ⟨_, _, by rw [A2, norm]⟩
       rw [sw_wI_ne s4.symm, sw_pI_at]
       exact rmR_del (n := 4) (by omega) (fun i hi => B2 i (by omega)) hi)
    | (rw [zI_lt (by omega) (by omega) (by omega) (by omega)] at c11
       rw [show capS z = z by unfold capS; rw [if_neg (by omega)]]
       exact tail _ z (by omega) ⟨B1, B2⟩ ⟨f1, k1, A2⟩)
theorem c_S_copy {s2 row2 : Nat} (S : isS w s row) (S2 : isS w s2 row2) (e2 : s2 ≠ row) : sw_ct w X l (d + 1) mX7_copy [.ref s, .ref s2] h (sw_qV w X fun h2 => h2 = sw_wI (sw_pI h row (va_cpy (h.1 row2) (h.1 row) 0 0 4)) s 1 (h.1 s2 1)) := by
  obtain ⟨s1, s2, s3, s4⟩ := S
  obtain ⟨q1, q2, q3, q4⟩ := S2
  refine sw_ct_of (by decide +kernel) (Nat.le_of_ble_eq_true rfl) rfl ?_
  refine sw_aload_n 1 dX7_copy_0 rfl rfl rfl ?_
  refine sw_getR 4 dX7_copy_1 rfl gf_RX7_9 (fun _ _ _ _ => rfl) (by first | assumption | exact ⟨by decide, rfl⟩) (by first | assumption | rfl) ?_
  refine sw_iconst (v := zI 0) 5 dX7_copy_4 rfl (by decide) ?_
  refine sw_aload_n 6 dX7_copy_5 rfl rfl rfl ?_
  refine sw_getR 9 dX7_copy_6 rfl gf_RX7_9 (fun _ _ _ _ => rfl) (by first | assumption | exact ⟨by decide, rfl⟩) (by first | assumption | rfl) ?_
  refine sw_iconst (v := zI 0) 10 dX7_copy_9 rfl (by decide) ?_
  refine sw_iconst (v := zI 4) 11 dX7_copy_10 rfl (by decide) ?_
  refine sw_acI 14 dX7_copy_11 rfl lk_RX7_27 (by first | assumption | exact ⟨by decide, rfl⟩) (by first | assumption | exact ⟨by decide, rfl⟩) (by decide) (by decide) (by decide) (by decide) (by decide) (Nat.le_of_ble_eq_true rfl) ?_
  refine sw_aload_n 15 dX7_copy_14 rfl rfl rfl ?_
  refine sw_aload_n 16 dX7_copy_15 rfl rfl rfl ?_
  refine sw_getI 19 dX7_copy_16 rfl gf_RX7_19 rfl (by first | assumption | exact ⟨by decide, rfl⟩) ?_
  refine sw_putI 22 dX7_copy_19 rfl pf_RX7_19 rfl (by first | assumption | exact ⟨by decide, rfl⟩) ?_
  exact sw_vret dX7_copy_22 rfl (by
  show sw_wI (sw_pI h row (va_cpy (h.1 row2) (h.1 row) 0 0 4)) s 1 ((sw_pI h row (va_cpy (h.1 row2) (h.1 row) 0 0 4)).1 _ 1) = _
  rw [sw_pI_ne e2])
-- Split
def rawA (a b c : Int) (k : Nat) : Int := if k = 0 then a else if k = 1 then c else if k = 4 then -c else if k = 5 then -a else b
def rawB (a b c : Int) (k : Nat) : Int := if k = 2 ∨ k = 4 then a else if k = 3 ∨ k = 5 then c else b
def formA (a b c : Int) (k : Nat) : Int := if rawB a b c k < 0 then -rawA a b c k else rawA a b c k
def formB (a b c : Int) (k : Nat) : Int := (rawB a b c k).natAbs
def atP (h : sw_H) (p : Nat) (a b c : Int) : Prop := h.2 p 0 = zL a ∧ h.2 p 1 = zL b ∧ h.2 p 2 = zL c
variable {p : Nat} {a b c : Int}
theorem c_P_set (S : sw_o w p 9) {a b : Int} : sw_ct w X l d mX9_set [.ref p, .long (zL a), .long (zL b)] h (sw_qV w X fun h2 => h2 = sw_wL (sw_wL (sw_wL h p 0 (zL a)) p 1 (zL b)) p 2 (zL (b - a))) := by
  refine sw_ct_of (by decide +kernel) (Nat.le_of_ble_eq_true rfl) rfl ?_
  refine sw_aload_n 1 dX9_set_0 rfl rfl rfl ?_
  refine sw_lload_n 2 dX9_set_1 rfl rfl rfl ?_
  refine sw_putL 5 dX9_set_2 rfl pf_RX9_18 rfl (by first | assumption | exact ⟨by decide, rfl⟩) ?_
  refine sw_aload_n 6 dX9_set_5 rfl rfl rfl ?_
  refine sw_lload_n 7 dX9_set_6 rfl rfl rfl ?_
  refine sw_putL 10 dX9_set_7 rfl pf_RX9_9 rfl (by first | assumption | exact ⟨by decide, rfl⟩) ?_
  refine sw_aload_n 11 dX9_set_10 rfl rfl rfl ?_
  refine sw_lload_n 12 dX9_set_11 rfl rfl rfl ?_
  refine sw_lload_n 13 dX9_set_12 rfl rfl rfl ?_
  refine sw_lsub 14 dX9_set_13 rfl ?_
  refine sw_putL 17 dX9_set_14 rfl pf_RX9_15 rfl (by first | assumption | exact ⟨by decide, rfl⟩) ?_
  exact sw_vret dX9_set_17 rfl (by rw [zL_sub])
theorem c_P_rawAbove (S : sw_o w p 9) (V : atP h p a b c) {k : Nat} (hk : k < 6) : sw_ct w X l d mX9_rawAbove [.ref p, .int (zI k)] h (sw_qL w X fun r h2 => h2 = h ∧ r = zL (rawA a b c k)) := by
  obtain ⟨v1, v2, v3⟩ := V
  refine sw_ct_of (by decide +kernel) (Nat.le_of_ble_eq_true rfl) rfl ?_
  refine sw_iload_n 1 dX9_rawAbove_0 rfl rfl rfl ?_
  refine sw_tab dX9_rawAbove_1 (by decide) ?_ ?_
  · intro i9 off9 hi9 he9
    match i9, hi9 with
    | 0, hi9 =>
      obtain rfl : off9 = 39 := (Option.some.inj (show some (39 : Int) = some off9 from hi9)).symm
      refine sw_at_pc (q := 40) (by decide) ?_
      have t1 := he9
      refine sw_aload_n 41 dX9_rawAbove_40 rfl rfl rfl ?_
      refine sw_getL 44 dX9_rawAbove_41 rfl gf_RX9_18 rfl (by first | assumption | exact ⟨by decide, rfl⟩) ?_
      exact sw_lret dX9_rawAbove_44 rfl (⟨rfl, by
  rw [zI_toInt (by omega) (by omega)] at t1
  unfold rawA
  simp only [v1, v2, v3, zL_neg]
  first
  | (rw [if_pos (by omega)]; done)
  | (rw [if_neg (by omega), if_pos (by omega)]; done)
  | (rw [if_neg (by omega), if_neg (by omega), if_pos (by omega)]; done)
  | (rw [if_neg (by omega), if_neg (by omega), if_neg (by omega), if_pos (by omega)]; done)
  | (rw [if_neg (by omega), if_neg (by omega), if_neg (by omega), if_neg (by omega)]; done)⟩)
    | 1, hi9 =>
      obtain rfl : off9 = 44 := (Option.some.inj (show some (44 : Int) = some off9 from hi9)).symm
      refine sw_at_pc (q := 45) (by decide) ?_
      have t1 := he9
      refine sw_aload_n 46 dX9_rawAbove_45 rfl rfl rfl ?_
      refine sw_getL 49 dX9_rawAbove_46 rfl gf_RX9_15 rfl (by first | assumption | exact ⟨by decide, rfl⟩) ?_
      exact sw_lret dX9_rawAbove_49 rfl (⟨rfl, by
  rw [zI_toInt (by omega) (by omega)] at t1
  unfold rawA
  simp only [v1, v2, v3, zL_neg]
  first
  | (rw [if_pos (by omega)]; done)
  | (rw [if_neg (by omega), if_pos (by omega)]; done)
  | (rw [if_neg (by omega), if_neg (by omega), if_pos (by omega)]; done)
  | (rw [if_neg (by omega), if_neg (by omega), if_neg (by omega), if_pos (by omega)]; done)
  | (rw [if_neg (by omega), if_neg (by omega), if_neg (by omega), if_neg (by omega)]; done)⟩)
    | 2, hi9 =>
      obtain rfl : off9 = 61 := (Option.some.inj (show some (61 : Int) = some off9 from hi9)).symm
      refine sw_at_pc (q := 62) (by decide) ?_
      have t1 := he9
      refine sw_aload_n 63 dX9_rawAbove_62 rfl rfl rfl ?_
      refine sw_getL 66 dX9_rawAbove_63 rfl gf_RX9_9 rfl (by first | assumption | exact ⟨by decide, rfl⟩) ?_
      exact sw_lret dX9_rawAbove_66 rfl (⟨rfl, by
  rw [zI_toInt (by omega) (by omega)] at t1
  unfold rawA
  simp only [v1, v2, v3, zL_neg]
  first
  | (rw [if_pos (by omega)]; done)
  | (rw [if_neg (by omega), if_pos (by omega)]; done)
  | (rw [if_neg (by omega), if_neg (by omega), if_pos (by omega)]; done)
  | (rw [if_neg (by omega), if_neg (by omega), if_neg (by omega), if_pos (by omega)]; done)
  | (rw [if_neg (by omega), if_neg (by omega), if_neg (by omega), if_neg (by omega)]; done)⟩)
    | 3, hi9 =>
      obtain rfl : off9 = 61 := (Option.some.inj (show some (61 : Int) = some off9 from hi9)).symm
      refine sw_at_pc (q := 62) (by decide) ?_
      have t1 := he9
      refine sw_aload_n 63 dX9_rawAbove_62 rfl rfl rfl ?_
      refine sw_getL 66 dX9_rawAbove_63 rfl gf_RX9_9 rfl (by first | assumption | exact ⟨by decide, rfl⟩) ?_
      exact sw_lret dX9_rawAbove_66 rfl (⟨rfl, by
  rw [zI_toInt (by omega) (by omega)] at t1
  unfold rawA
  simp only [v1, v2, v3, zL_neg]
  first
  | (rw [if_pos (by omega)]; done)
  | (rw [if_neg (by omega), if_pos (by omega)]; done)
  | (rw [if_neg (by omega), if_neg (by omega), if_pos (by omega)]; done)
  | (rw [if_neg (by omega), if_neg (by omega), if_neg (by omega), if_pos (by omega)]; done)
  | (rw [if_neg (by omega), if_neg (by omega), if_neg (by omega), if_neg (by omega)]; done)⟩)
    | 4, hi9 =>
      obtain rfl : off9 = 49 := (Option.some.inj (show some (49 : Int) = some off9 from hi9)).symm
      refine sw_at_pc (q := 50) (by decide) ?_
      have t1 := he9
      refine sw_aload_n 51 dX9_rawAbove_50 rfl rfl rfl ?_
      refine sw_getL 54 dX9_rawAbove_51 rfl gf_RX9_15 rfl (by first | assumption | exact ⟨by decide, rfl⟩) ?_
      refine sw_lneg 55 dX9_rawAbove_54 rfl ?_
      exact sw_lret dX9_rawAbove_55 rfl (⟨rfl, by
  rw [zI_toInt (by omega) (by omega)] at t1
  unfold rawA
  simp only [v1, v2, v3, zL_neg]
  first
  | (rw [if_pos (by omega)]; done)
  | (rw [if_neg (by omega), if_pos (by omega)]; done)
  | (rw [if_neg (by omega), if_neg (by omega), if_pos (by omega)]; done)
  | (rw [if_neg (by omega), if_neg (by omega), if_neg (by omega), if_pos (by omega)]; done)
  | (rw [if_neg (by omega), if_neg (by omega), if_neg (by omega), if_neg (by omega)]; done)⟩)
    | 5, hi9 =>
      obtain rfl : off9 = 55 := (Option.some.inj (show some (55 : Int) = some off9 from hi9)).symm
      refine sw_at_pc (q := 56) (by decide) ?_
      have t1 := he9
      refine sw_aload_n 57 dX9_rawAbove_56 rfl rfl rfl ?_
      refine sw_getL 60 dX9_rawAbove_57 rfl gf_RX9_18 rfl (by first | assumption | exact ⟨by decide, rfl⟩) ?_
      refine sw_lneg 61 dX9_rawAbove_60 rfl ?_
      exact sw_lret dX9_rawAbove_61 rfl (⟨rfl, by
  rw [zI_toInt (by omega) (by omega)] at t1
  unfold rawA
  simp only [v1, v2, v3, zL_neg]
  first
  | (rw [if_pos (by omega)]; done)
  | (rw [if_neg (by omega), if_pos (by omega)]; done)
  | (rw [if_neg (by omega), if_neg (by omega), if_pos (by omega)]; done)
  | (rw [if_neg (by omega), if_neg (by omega), if_neg (by omega), if_pos (by omega)]; done)
  | (rw [if_neg (by omega), if_neg (by omega), if_neg (by omega), if_neg (by omega)]; done)⟩)
    | k9 + 6, hi9 => exact absurd hi9 (by simp)
  · intro ho9
    refine sw_at_pc (q := 62) (by decide) ?_
    have t1 := ho9
    refine sw_aload_n 63 dX9_rawAbove_62 rfl rfl rfl ?_
    refine sw_getL 66 dX9_rawAbove_63 rfl gf_RX9_9 rfl (by first | assumption | exact ⟨by decide, rfl⟩) ?_
    exact sw_lret dX9_rawAbove_66 rfl (⟨rfl, by
  rw [zI_toInt (by omega) (by omega)] at t1
  unfold rawA
  simp only [v1, v2, v3, zL_neg]
  first
  | (rw [if_pos (by omega)]; done)
  | (rw [if_neg (by omega), if_pos (by omega)]; done)
  | (rw [if_neg (by omega), if_neg (by omega), if_pos (by omega)]; done)
  | (rw [if_neg (by omega), if_neg (by omega), if_neg (by omega), if_pos (by omega)]; done)
  | (rw [if_neg (by omega), if_neg (by omega), if_neg (by omega), if_neg (by omega)]; done)⟩)
theorem c_P_rawBelow (S : sw_o w p 9) (V : atP h p a b c) {k : Nat} (hk : k < 6) : sw_ct w X l d mX9_rawBelow [.ref p, .int (zI k)] h (sw_qL w X fun r h2 => h2 = h ∧ r = zL (rawB a b c k)) := by
  obtain ⟨v1, v2, v3⟩ := V
  refine sw_ct_of (by decide +kernel) (Nat.le_of_ble_eq_true rfl) rfl ?_
  refine sw_iload_n 1 dX9_rawBelow_0 rfl rfl rfl ?_
  refine sw_tab dX9_rawBelow_1 (by decide) ?_ ?_
  · intro i9 off9 hi9 he9
    match i9, hi9 with
    | 0, hi9 =>
      obtain rfl : off9 = 31 := (Option.some.inj (show some (31 : Int) = some off9 from hi9)).symm
      refine sw_at_pc (q := 32) (by decide) ?_
      have t1 := he9
      refine sw_aload_n 33 dX9_rawBelow_32 rfl rfl rfl ?_
      refine sw_getL 36 dX9_rawBelow_33 rfl gf_RX9_18 rfl (by first | assumption | exact ⟨by decide, rfl⟩) ?_
      exact sw_lret dX9_rawBelow_36 rfl (⟨rfl, by
  rw [zI_toInt (by omega) (by omega)] at t1
  unfold rawB
  simp only [v1, v2, v3, zL_neg]
  first
  | (rw [if_pos (by omega)]; done)
  | (rw [if_neg (by omega), if_pos (by omega)]; done)
  | (rw [if_neg (by omega), if_neg (by omega)]; done)⟩)
    | 1, hi9 =>
      obtain rfl : off9 = 36 := (Option.some.inj (show some (36 : Int) = some off9 from hi9)).symm
      refine sw_at_pc (q := 37) (by decide) ?_
      have t1 := he9
      refine sw_aload_n 38 dX9_rawBelow_37 rfl rfl rfl ?_
      refine sw_getL 41 dX9_rawBelow_38 rfl gf_RX9_15 rfl (by first | assumption | exact ⟨by decide, rfl⟩) ?_
      exact sw_lret dX9_rawBelow_41 rfl (⟨rfl, by
  rw [zI_toInt (by omega) (by omega)] at t1
  unfold rawB
  simp only [v1, v2, v3, zL_neg]
  first
  | (rw [if_pos (by omega)]; done)
  | (rw [if_neg (by omega), if_pos (by omega)]; done)
  | (rw [if_neg (by omega), if_neg (by omega)]; done)⟩)
    | 2, hi9 =>
      obtain rfl : off9 = 31 := (Option.some.inj (show some (31 : Int) = some off9 from hi9)).symm
      refine sw_at_pc (q := 32) (by decide) ?_
      have t1 := he9
      refine sw_aload_n 33 dX9_rawBelow_32 rfl rfl rfl ?_
      refine sw_getL 36 dX9_rawBelow_33 rfl gf_RX9_18 rfl (by first | assumption | exact ⟨by decide, rfl⟩) ?_
      exact sw_lret dX9_rawBelow_36 rfl (⟨rfl, by
  rw [zI_toInt (by omega) (by omega)] at t1
  unfold rawB
  simp only [v1, v2, v3, zL_neg]
  first
  | (rw [if_pos (by omega)]; done)
  | (rw [if_neg (by omega), if_pos (by omega)]; done)
  | (rw [if_neg (by omega), if_neg (by omega)]; done)⟩)
    | 3, hi9 =>
      obtain rfl : off9 = 36 := (Option.some.inj (show some (36 : Int) = some off9 from hi9)).symm
      refine sw_at_pc (q := 37) (by decide) ?_
      have t1 := he9
      refine sw_aload_n 38 dX9_rawBelow_37 rfl rfl rfl ?_
      refine sw_getL 41 dX9_rawBelow_38 rfl gf_RX9_15 rfl (by first | assumption | exact ⟨by decide, rfl⟩) ?_
      exact sw_lret dX9_rawBelow_41 rfl (⟨rfl, by
  rw [zI_toInt (by omega) (by omega)] at t1
  unfold rawB
  simp only [v1, v2, v3, zL_neg]
  first
  | (rw [if_pos (by omega)]; done)
  | (rw [if_neg (by omega), if_pos (by omega)]; done)
  | (rw [if_neg (by omega), if_neg (by omega)]; done)⟩)
    | k9 + 4, hi9 => exact absurd hi9 (by simp)
  · intro ho9
    refine sw_at_pc (q := 42) (by decide) ?_
    have t1 := ho9
    refine sw_aload_n 43 dX9_rawBelow_42 rfl rfl rfl ?_
    refine sw_getL 46 dX9_rawBelow_43 rfl gf_RX9_9 rfl (by first | assumption | exact ⟨by decide, rfl⟩) ?_
    exact sw_lret dX9_rawBelow_46 rfl (⟨rfl, by
  rw [zI_toInt (by omega) (by omega)] at t1
  unfold rawB
  simp only [v1, v2, v3, zL_neg]
  first
  | (rw [if_pos (by omega)]; done)
  | (rw [if_neg (by omega), if_pos (by omega)]; done)
  | (rw [if_neg (by omega), if_neg (by omega)]; done)⟩)
theorem rawA_b (k : Nat) : rawA a b c k = a ∨ rawA a b c k = b ∨ rawA a b c k = c ∨ rawA a b c k = -a ∨ rawA a b c k = -c := by
  unfold rawA; repeat' split
  all_goals simp
theorem rawB_b (k : Nat) : rawB a b c k = a ∨ rawB a b c k = b ∨ rawB a b c k = c := by
  unfold rawB; repeat' split
  all_goals simp
theorem c_P_formAbove (S : sw_o w p 9) (V : atP h p a b c) (ha : a.natAbs < 4611686018427387904) (hb : b.natAbs < 4611686018427387904) (hc : c.natAbs < 4611686018427387904) {k : Nat} (hk : k < 6) : sw_ct w X l (d + 1) mX9_formAbove [.ref p, .int (zI k)] h (sw_qL w X fun r h2 => h2 = h ∧ r = zL (formA a b c k)) := by
  have hB := rawB_b (a := a) (b := b) (c := c) k
  refine sw_ct_of (by decide +kernel) (Nat.le_of_ble_eq_true rfl) rfl ?_
  refine sw_aload_n 1 dX9_formAbove_0 rfl rfl rfl ?_
  refine sw_iload_n 2 dX9_formAbove_1 rfl rfl rfl ?_
  refine sw_invVL 5 dX9_formAbove_2 rfl lk_RX9_21 (c_P_rawBelow S V hk) (by first | assumption | exact ⟨by decide, rfl⟩) rfl rfl (Nat.le_of_ble_eq_true rfl) (fun r2 h2 hq2 => ?_)
  obtain ⟨rfl, rfl⟩ := hq2
  refine sw_lconst (v := zL 0) 6 dX9_formAbove_5 rfl (by decide) ?_
  refine sw_lcmp 7 dX9_formAbove_6 rfl ?_
  refine sw_if_ge 19 10 dX9_formAbove_7 (by decide) rfl (fun c7 => ?_) (fun c7 => ?_)
  · refine sw_aload_n 20 dX9_formAbove_19 rfl rfl rfl ?_
    refine sw_iload_n 21 dX9_formAbove_20 rfl rfl rfl ?_
    refine sw_invVL 24 dX9_formAbove_21 rfl lk_RX9_25 (c_P_rawAbove S V hk) (by first | assumption | exact ⟨by decide, rfl⟩) rfl rfl (Nat.le_of_ble_eq_true rfl) (fun r21 h21 hq21 => ?_)
    obtain ⟨rfl, rfl⟩ := hq21
    exact sw_lret dX9_formAbove_24 rfl (⟨rfl, by
  rw [lc_ge, zL_le (by omega) (by omega) (by omega) (by omega)] at c7
  unfold formA
  first
  | rw [if_pos (by omega), zL_neg]
  | rw [if_neg (by omega)]⟩)
  · refine sw_aload_n 11 dX9_formAbove_10 rfl rfl rfl ?_
    refine sw_iload_n 12 dX9_formAbove_11 rfl rfl rfl ?_
    refine sw_invVL 15 dX9_formAbove_12 rfl lk_RX9_25 (c_P_rawAbove S V hk) (by first | assumption | exact ⟨by decide, rfl⟩) rfl rfl (Nat.le_of_ble_eq_true rfl) (fun r12 h12 hq12 => ?_)
    obtain ⟨rfl, rfl⟩ := hq12
    refine sw_lneg 16 dX9_formAbove_15 rfl ?_
    refine sw_goto 24 dX9_formAbove_16 (by decide) ?_
    exact sw_lret dX9_formAbove_24 rfl (⟨rfl, by
  rw [lc_ge, zL_le (by omega) (by omega) (by omega) (by omega)] at c7
  unfold formA
  first
  | rw [if_pos (by omega), zL_neg]
  | rw [if_neg (by omega)]⟩)
theorem c_P_formBelow (S : sw_o w p 9) (V : atP h p a b c) (ha : a.natAbs < 4611686018427387904) (hb : b.natAbs < 4611686018427387904) (hc : c.natAbs < 4611686018427387904) {k : Nat} (hk : k < 6) : sw_ct w X l (d + 1) mX9_formBelow [.ref p, .int (zI k)] h (sw_qL w X fun r h2 => h2 = h ∧ r = zL (formB a b c k)) := by
  have hB := rawB_b (a := a) (b := b) (c := c) k
  refine sw_ct_of (by decide +kernel) (Nat.le_of_ble_eq_true rfl) rfl ?_
  refine sw_aload_n 1 dX9_formBelow_0 rfl rfl rfl ?_
  refine sw_iload_n 2 dX9_formBelow_1 rfl rfl rfl ?_
  refine sw_invVL 5 dX9_formBelow_2 rfl lk_RX9_21 (c_P_rawBelow S V hk) (by first | assumption | exact ⟨by decide, rfl⟩) rfl rfl (Nat.le_of_ble_eq_true rfl) (fun r2 h2 hq2 => ?_)
  obtain ⟨rfl, rfl⟩ := hq2
  refine sw_invSL 8 dX9_formBelow_5 rfl lk_RX9_28 (c_absLZ (by omega) (by omega)) rfl rfl (Nat.le_of_ble_eq_true rfl) (fun r5 h5 hq5 => ?_)
  obtain ⟨rfl, rfl⟩ := hq5
  exact sw_lret dX9_formBelow_8 rfl (⟨rfl, rfl⟩)
def likeE (a b c : Int) (k : Nat) : Nat → Nat → Bool
  | 0, _ => false
  | m + 1, j => if formA a b c j = formA a b c k ∧ formB a b c j = formB a b c k then true else likeE a b c k m (j + 1)
theorem form_b (ha : a.natAbs < 4611686018427387904) (hb : b.natAbs < 4611686018427387904) (hc : c.natAbs < 4611686018427387904) (k : Nat) : (formA a b c k).natAbs < 4611686018427387904 ∧ 0 ≤ formB a b c k ∧ formB a b c k < 4611686018427387904 := by
  have hA := rawA_b (a := a) (b := b) (c := c) k
  have hB := rawB_b (a := a) (b := b) (c := c) k
  unfold formA formB
  split <;> omega
theorem c_P_isLike (S : sw_o w p 9) (V : atP h p a b c) (ha : a.natAbs < 4611686018427387904) (hb : b.natAbs < 4611686018427387904) (hc : c.natAbs < 4611686018427387904) {k : Nat} (hk : k < 6) : sw_ct w X l (d + 2) mX9_isLikeAnEarlierOne [.ref p, .int (zI k)] h (sw_qI w X fun r h2 => h2 = h ∧ r = zI (if likeE a b c k k 0 then 1 else 0)) := by
  refine sw_ct_of (by decide +kernel) (Nat.le_of_ble_eq_true rfl) rfl ?_
  have loop : ∀ m j : Nat, j + m = k → sw_wp w X l (d + 2) mX9_isLikeAnEarlierOne (sw_qI w X fun r h2 => h2 = h ∧ r = zI (if likeE a b c k m j then 1 else 0)) 2 [(0, .ref p), (1, .int (zI k)), (2, .int (zI j))] [] h := by
    intro m
    induction m with
    | zero =>
      intro j hj
      have : j = k := by omega
      subst this
      refine sw_iload_n 3 dX9_isLikeAnEarlierOne_2 rfl rfl rfl ?_
      refine sw_iload_n 4 dX9_isLikeAnEarlierOne_3 rfl rfl rfl ?_
      refine sw_icmp_ge 43 7 dX9_isLikeAnEarlierOne_4 (by decide) rfl (fun c4 => ?_) (fun c4 => ?_)
      · refine sw_iconst (v := zI 0) 44 dX9_isLikeAnEarlierOne_43 rfl (by decide) ?_
        exact sw_zret (by first | exact Or.inl rfl | exact Or.inr rfl | assumption) dX9_isLikeAnEarlierOne_44 rfl (⟨rfl, rfl⟩)
      · exact absurd (Int32.le_refl _) c4
    | succ m ih =>
      intro j hj
      have f1 := form_b ha hb hc j
      have f2 := form_b ha hb hc k
      have le : likeE a b c k (m + 1) j = if formA a b c j = formA a b c k ∧ formB a b c j = formB a b c k then true else likeE a b c k m (j + 1) := rfl
      refine sw_iload_n 3 dX9_isLikeAnEarlierOne_2 rfl rfl rfl ?_
      refine sw_iload_n 4 dX9_isLikeAnEarlierOne_3 rfl rfl rfl ?_
      refine sw_icmp_ge 43 7 dX9_isLikeAnEarlierOne_4 (by decide) rfl (fun c4 => ?_) (fun c4 => ?_)
      · exact absurd c4 (by rw [zI_le (by omega) (by omega) (by omega) (by omega)]; omega)
      · refine sw_aload_n 8 dX9_isLikeAnEarlierOne_7 rfl rfl rfl ?_
        refine sw_iload_n 9 dX9_isLikeAnEarlierOne_8 rfl rfl rfl ?_
        refine sw_invVL 12 dX9_isLikeAnEarlierOne_9 rfl lk_RX9_38 (c_P_formAbove S V ha hb hc (show j < 6 by omega)) (by first | assumption | exact ⟨by decide, rfl⟩) rfl rfl (Nat.le_of_ble_eq_true rfl) (fun r9 h9 hq9 => ?_)
        obtain ⟨rfl, rfl⟩ := hq9
        refine sw_aload_n 13 dX9_isLikeAnEarlierOne_12 rfl rfl rfl ?_
        refine sw_iload_n 14 dX9_isLikeAnEarlierOne_13 rfl rfl rfl ?_
        refine sw_invVL 17 dX9_isLikeAnEarlierOne_14 rfl lk_RX9_38 (c_P_formAbove S V ha hb hc hk) (by first | assumption | exact ⟨by decide, rfl⟩) rfl rfl (Nat.le_of_ble_eq_true rfl) (fun r14 h14 hq14 => ?_)
        obtain ⟨rfl, rfl⟩ := hq14
        refine sw_lcmp 18 dX9_isLikeAnEarlierOne_17 rfl ?_
        refine sw_if_ne 37 21 dX9_isLikeAnEarlierOne_18 (by decide) rfl (fun c18 => ?_) (fun c18 => ?_)
        · try rw [lc_eq, zL_eq (by omega) (by omega) (by omega) (by omega)] at c32
          try rw [lc_eq, zL_eq (by omega) (by omega) (by omega) (by omega)] at c18
          rw [if_neg (by first | exact fun q => c18 q.1 | exact fun q => c32 q.2)] at le
          rw [le]
          refine sw_iinc (v := zI 1) (lc' := [(0, _), (1, _), (2, _)]) 40 dX9_isLikeAnEarlierOne_37 rfl (by decide) rfl rfl rfl ?_
          refine sw_goto 2 dX9_isLikeAnEarlierOne_40 (by decide) ?_
          rw [zI_add]
          exact ih (j + 1) (by omega)
        · rw [lc_eq, zL_eq (by omega) (by omega) (by omega) (by omega)] at c18
          refine sw_aload_n 22 dX9_isLikeAnEarlierOne_21 rfl rfl rfl ?_
          refine sw_iload_n 23 dX9_isLikeAnEarlierOne_22 rfl rfl rfl ?_
          refine sw_invVL 26 dX9_isLikeAnEarlierOne_23 rfl lk_RX9_41 (c_P_formBelow S V ha hb hc (show j < 6 by omega)) (by first | assumption | exact ⟨by decide, rfl⟩) rfl rfl (Nat.le_of_ble_eq_true rfl) (fun r23 h23 hq23 => ?_)
          obtain ⟨rfl, rfl⟩ := hq23
          refine sw_aload_n 27 dX9_isLikeAnEarlierOne_26 rfl rfl rfl ?_
          refine sw_iload_n 28 dX9_isLikeAnEarlierOne_27 rfl rfl rfl ?_
          refine sw_invVL 31 dX9_isLikeAnEarlierOne_28 rfl lk_RX9_41 (c_P_formBelow S V ha hb hc hk) (by first | assumption | exact ⟨by decide, rfl⟩) rfl rfl (Nat.le_of_ble_eq_true rfl) (fun r28 h28 hq28 => ?_)
          obtain ⟨rfl, rfl⟩ := hq28
          refine sw_lcmp 32 dX9_isLikeAnEarlierOne_31 rfl ?_
          refine sw_if_ne 37 35 dX9_isLikeAnEarlierOne_32 (by decide) rfl (fun c32 => ?_) (fun c32 => ?_)
          · try rw [lc_eq, zL_eq (by omega) (by omega) (by omega) (by omega)] at c32
            try rw [lc_eq, zL_eq (by omega) (by omega) (by omega) (by omega)] at c18
            rw [if_neg (by first | exact fun q => c18 q.1 | exact fun q => c32 q.2)] at le
            rw [le]
            refine sw_iinc (v := zI 1) (lc' := [(0, _), (1, _), (2, _)]) 40 dX9_isLikeAnEarlierOne_37 rfl (by decide) rfl rfl rfl ?_
            refine sw_goto 2 dX9_isLikeAnEarlierOne_40 (by decide) ?_
            rw [zI_add]
            exact ih (j + 1) (by omega)
          · refine sw_iconst (v := zI 1) 36 dX9_isLikeAnEarlierOne_35 rfl (by decide) ?_
            exact sw_zret (by first | exact Or.inl rfl | exact Or.inr rfl | assumption) dX9_isLikeAnEarlierOne_36 rfl (⟨rfl, by
  rw [lc_eq, zL_eq (by omega) (by omega) (by omega) (by omega)] at c32
  rw [if_pos ⟨c18, c32⟩] at le
  rw [le]; rfl⟩)
  refine sw_iconst (v := zI 0) 1 dX9_isLikeAnEarlierOne_0 rfl (by decide) ?_
  refine sw_istore_n (lc' := [(0, _), (1, _), (2, _)]) 2 dX9_isLikeAnEarlierOne_1 rfl rfl (by decide) rfl ?_
  exact loop k 0 (by omega)
def unlikeN (a b c : Int) : Nat → Nat
  | 0 => 0
  | k + 1 => unlikeN a b c k + if likeE a b c k k 0 then 0 else 1
theorem c_P_unlikeForms (S : sw_o w p 9) (V : atP h p a b c) (ha : a.natAbs < 4611686018427387904) (hb : b.natAbs < 4611686018427387904) (hc : c.natAbs < 4611686018427387904) : sw_ct w X l (d + 3) mX9_unlikeForms [.ref p] h (sw_qI w X fun r h2 => h2 = h ∧ r = zI (unlikeN a b c 6)) := by
  refine sw_ct_of (by decide +kernel) (Nat.le_of_ble_eq_true rfl) rfl ?_
  have loop : ∀ m j : Nat, j + m = 6 → sw_wp w X l (d + 3) mX9_unlikeForms (sw_qI w X fun r h2 => h2 = h ∧ r = zI (unlikeN a b c 6)) 4 [(0, .ref p), (1, .int (zI (unlikeN a b c j))), (2, .int (zI j))] [] h := by
    intro m
    induction m with
    | zero =>
      intro j hj
      have : j = 6 := by omega
      subst this
      refine sw_iload_n 5 dX9_unlikeForms_4 rfl rfl rfl ?_
      refine sw_bipush (v := zI 6) 7 dX9_unlikeForms_5 rfl (by decide) ?_
      refine sw_icmp_ge 27 10 dX9_unlikeForms_7 (by decide) rfl (fun c7 => ?_) (fun c7 => ?_)
      · refine sw_iload_n 28 dX9_unlikeForms_27 rfl rfl rfl ?_
        exact sw_iret dX9_unlikeForms_28 rfl (⟨rfl, rfl⟩)
      · exact absurd (Int32.le_refl _) c7
    | succ m ih =>
      intro j hj
      have e9 : unlikeN a b c (j + 1) = unlikeN a b c j + if likeE a b c j j 0 then 0 else 1 := rfl
      have ihj := ih (j + 1) (by omega)
      refine sw_iload_n 5 dX9_unlikeForms_4 rfl rfl rfl ?_
      refine sw_bipush (v := zI 6) 7 dX9_unlikeForms_5 rfl (by decide) ?_
      refine sw_icmp_ge 27 10 dX9_unlikeForms_7 (by decide) rfl (fun c7 => ?_) (fun c7 => ?_)
      · exact absurd c7 (by rw [zI_le (by omega) (by omega) (by omega) (by omega)]; omega)
      · refine sw_aload_n 11 dX9_unlikeForms_10 rfl rfl rfl ?_
        refine sw_iload_n 12 dX9_unlikeForms_11 rfl rfl rfl ?_
        refine sw_invVI 15 dX9_unlikeForms_12 rfl lk_RX9_34 (c_P_isLike S V ha hb hc (show j < 6 by omega)) (by first | assumption | exact ⟨by decide, rfl⟩) rfl rfl (Nat.le_of_ble_eq_true rfl) (fun r12 h12 hq12 => ?_)
        obtain ⟨rfl, rfl⟩ := hq12
        refine sw_if_ne 21 18 dX9_unlikeForms_15 (by decide) rfl (fun c15 => ?_) (fun c15 => ?_)
        · refine sw_iinc (v := zI 1) (lc' := [(0, _), (1, _), (2, _)]) 24 dX9_unlikeForms_21 rfl (by decide) rfl rfl rfl ?_
          refine sw_goto 4 dX9_unlikeForms_24 (by decide) ?_
          simp only [zI_add]
          cases hE : likeE a b c j j 0 with
          | true =>
            first
            | exact absurd rfl (by rw [hE] at c15; exact c15)
            | (rw [e9, hE] at ihj; exact ihj)
            | (rw [hE] at c15; exact absurd c15 (by decide))
          | false =>
            first
            | (rw [hE] at c15; exact absurd c15 (by decide))
            | (rw [e9, hE] at ihj; exact ihj)
        · refine sw_iinc (v := zI 1) (lc' := [(0, _), (1, _), (2, _)]) 21 dX9_unlikeForms_18 rfl (by decide) rfl rfl rfl ?_
          refine sw_iinc (v := zI 1) (lc' := [(0, _), (1, _), (2, _)]) 24 dX9_unlikeForms_21 rfl (by decide) rfl rfl rfl ?_
          refine sw_goto 4 dX9_unlikeForms_24 (by decide) ?_
          simp only [zI_add]
          cases hE : likeE a b c j j 0 with
          | true =>
            first
            | exact absurd rfl (by rw [hE] at c15; exact c15)
            | (rw [e9, hE] at ihj; exact ihj)
            | (rw [hE] at c15; exact absurd c15 (by decide))
          | false =>
            first
            | (rw [hE] at c15; exact absurd c15 (by decide))
            | (rw [e9, hE] at ihj; exact ihj)
  refine sw_iconst (v := zI 0) 1 dX9_unlikeForms_0 rfl (by decide) ?_
  refine sw_istore_n (lc' := [(0, _), (1, _)]) 2 dX9_unlikeForms_1 rfl rfl (by decide) rfl ?_
  refine sw_iconst (v := zI 0) 3 dX9_unlikeForms_2 rfl (by decide) ?_
  refine sw_istore_n (lc' := [(0, _), (1, _), (2, _)]) 4 dX9_unlikeForms_3 rfl rfl (by decide) rfl ?_
  exact loop 6 0 (by omega)
end sw_small
