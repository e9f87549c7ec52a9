/-! DESK (in the class's world), LISTS -/
theorem isB_now : isB wA 2 3 4 := ⟨⟨by decide, rfl⟩, rfl, rfl, ⟨by decide, rfl⟩, ⟨by decide, rfl⟩, by decide, by decide, by decide⟩
theorem isB_kept : isB wA 17 18 19 := ⟨⟨by decide, rfl⟩, rfl, rfl, ⟨by decide, rfl⟩, ⟨by decide, rfl⟩, by decide, by decide, by decide⟩
theorem isS_now : isS wA 6 7 := ⟨⟨by decide, rfl⟩, rfl, ⟨by decide, rfl⟩, by decide⟩
theorem isS_kept : isS wA 21 22 := ⟨⟨by decide, rfl⟩, rfl, ⟨by decide, rfl⟩, by decide⟩
theorem isU_now {j : Nat} (hj : j < 4) : isU wA (8 + 2 * j) (9 + 2 * j) := by
  have : j = 0 ∨ j = 1 ∨ j = 2 ∨ j = 3 := by omega
  rcases this with rfl | rfl | rfl | rfl <;> exact ⟨⟨by decide, rfl⟩, rfl, ⟨by decide, rfl⟩, by decide⟩
theorem isU_kept {j : Nat} (hj : j < 4) : isU wA (23 + 2 * j) (24 + 2 * j) := by
  have : j = 0 ∨ j = 1 ∨ j = 2 ∨ j = 3 := by omega
  rcases this with rfl | rfl | rfl | rfl <;> exact ⟨⟨by decide, rfl⟩, rfl, ⟨by decide, rfl⟩, by decide⟩
theorem isU_work : isU wA 60 61 := ⟨⟨by decide, rfl⟩, rfl, ⟨by decide, rfl⟩, by decide⟩
theorem isU_read : isU wA 68 69 := ⟨⟨by decide, rfl⟩, rfl, ⟨by decide, rfl⟩, by decide⟩
theorem rf_now {j : Nat} (hj : j < 4) : wA.2.2 5 (zI j).toNatClampNeg = 8 + 2 * j := by
  have : j = 0 ∨ j = 1 ∨ j = 2 ∨ j = 3 := by omega
  rcases this with rfl | rfl | rfl | rfl <;> rfl
theorem rf_kept {j : Nat} (hj : j < 4) : wA.2.2 20 (zI j).toNatClampNeg = 23 + 2 * j := by
  have : j = 0 ∨ j = 1 ∨ j = 2 ∨ j = 3 := by omega
  rcases this with rfl | rfl | rfl | rfl <;> rfl
/-- the rows of the first j shelves, each by G -/
def shMap (G : (Nat → Int32) → Nat → Int32) (j : Nat) (h : sw_H) : sw_H := (fun a => if a % 2 = 1 ∧ 9 ≤ a ∧ a < 9 + 2 * j then G (h.1 a) else h.1 a, h.2)
theorem shMap_0 (G : (Nat → Int32) → Nat → Int32) (h : sw_H) : shMap G 0 h = h := by
  unfold shMap
  cases h with | mk a b => congr 1; funext x; rw [if_neg (by omega)]
theorem shMap_step (G : (Nat → Int32) → Nat → Int32) {j : Nat} (h : sw_H) : sw_pI (shMap G j h) (9 + 2 * j) (G ((shMap G j h).1 (9 + 2 * j))) = shMap G (j + 1) h := by
  have e1 : (shMap G j h).1 (9 + 2 * j) = h.1 (9 + 2 * j) := by unfold shMap; simp only; rw [if_neg (by omega)]
  rw [e1]
  unfold shMap sw_pI
  congr 1
  funext a
  by_cases e : a = 9 + 2 * j
  · subst e; simp only [va_up, if_true]; rw [if_pos (by omega)]
  · have e2 : (a % 2 = 1 ∧ 9 ≤ a ∧ a < 9 + 2 * (j + 1)) = (a % 2 = 1 ∧ 9 ≤ a ∧ a < 9 + 2 * j) := by apply propext; omega
    simp only [va_up, if_neg e, e2]
theorem shMap_ne {G : (Nat → Int32) → Nat → Int32} {j a : Nat} {h : sw_H} (ha : a % 2 = 0 ∨ a < 9 ∨ 9 + 2 * j ≤ a) : (shMap G j h).1 a = h.1 a := by
  unfold shMap; simp only; rw [if_neg (by omega)]
theorem shMap_at {G : (Nat → Int32) → Nat → Int32} {j s : Nat} {h : sw_H} (hs : s < j) : (shMap G j h).1 (9 + 2 * s) = G (h.1 (9 + 2 * s)) := by
  unfold shMap; simp only; rw [if_pos (by omega)]
section sw_desk
variable {X : sw_X} {l : Launch} {d : Nat} {h : sw_H} {n k : Nat} {p bx q : Nat → Int}
theorem c_D_addPrime (V : atB h 2 3 4 n p bx) (hn : n < 4) (VS : h.1 6 1 = zI k) (hk : k ≤ 4) (WS : ∀ i, i < k → h.1 7 i = zI (q i) ∧ 3 ≤ q i ∧ q i ≤ 97) {v : Int} (v1 : 2 ≤ v) (v2 : v ≤ 31) :
    sw_ct wA X l (d + 2) mX3_addPrime [.ref 1, .int (zI v)] h (sw_qV wA X fun h2 => h2 = sRm (shMap (insR (insAt p v n) 3 (zI 0)) 4 (sw_wI (sw_pI (sw_pI h 3 (insR (insAt p v n) n (zI v) (h.1 3))) 4 (insR (insAt p v n) n (zI 2) (h.1 4))) 2 2 (zI (n + 1)))) 6 7 k (fndZ q v k 0)) := by
  have hat := insAt_le p v n
  generalize hg : sw_wI (sw_pI (sw_pI h 3 (insR (insAt p v n) n (zI v) (h.1 3))) 4 (insR (insAt p v n) n (zI 2) (h.1 4))) 2 2 (zI (n + 1)) = g
  have g6 : g.1 6 = h.1 6 := by rw [← hg, sw_wI_ne (by decide), sw_pI_ne (by decide), sw_pI_ne (by decide)]
  have g7 : g.1 7 = h.1 7 := by rw [← hg, sw_wI_ne (by decide), sw_pI_ne (by decide), sw_pI_ne (by decide)]
  refine sw_ct_of (by decide +kernel) (Nat.le_of_ble_eq_true rfl) rfl ?_
  have loop : ∀ m j : Nat, j + m = 4 → sw_wp wA X l (d + 2) mX3_addPrime (sw_qV wA X fun h2 => h2 = sRm (shMap (insR (insAt p v n) 3 (zI 0)) 4 g) 6 7 k (fndZ q v k 0)) 26 [(0, .ref 1), (1, .int (zI v)), (2, .int (zI (insAt p v n))), (3, .ref 5), (4, .int (Int32.ofNat 4)), (5, .int (zI j))] [] (shMap (insR (insAt p v n) 3 (zI 0)) j g) := by
    intro m
    induction m with
    | zero =>
      intro j hj
      have : j = 4 := by omega
      subst this
      refine sw_iload 28 dX3_addPrime_26 rfl rfl ?_
      refine sw_iload 30 dX3_addPrime_28 rfl rfl ?_
      refine sw_icmp_ge 51 33 dX3_addPrime_30 (by decide) rfl (fun c30 => ?_) (fun c30 => ?_)
      · refine sw_aload_n 52 dX3_addPrime_51 rfl rfl rfl ?_
        refine sw_getR (b := 6) 55 dX3_addPrime_52 rfl gf_RX3_27 (fun _ _ _ _ => rfl) ⟨by decide, rfl⟩ rfl ?_
        refine sw_iload_n 56 dX3_addPrime_55 rfl rfl rfl ?_
        refine sw_invVI 59 dX3_addPrime_56 rfl lk_RX3_40 (c_S_remove (q := q) (n := k) isS_now (by rw [shMap_ne (by decide), g6]; exact VS) hk (fun i hi => by rw [shMap_ne (by decide), g7]; exact WS i hi) (by omega) (by omega)) ⟨by decide, rfl⟩ rfl rfl (Nat.le_of_ble_eq_true rfl) (fun r56 h56 hq56 => ?_)
        obtain ⟨rfl, rfl⟩ := hq56
        refine sw_pop 60 dX3_addPrime_59 rfl rfl ?_
        exact sw_vret dX3_addPrime_60 rfl (rfl)
      · exact absurd (Int32.le_refl _) c30
    | succ m ih =>
      intro j hj
      have hin : vp_in (zI j) 4 := zI_inN (by omega) (by omega)
      have hrf := rf_now (j := j) (by omega)
      have hU := isU_now (j := j) (by omega)
      have hU1 := hU.1
      refine sw_iload 28 dX3_addPrime_26 rfl rfl ?_
      refine sw_iload 30 dX3_addPrime_28 rfl rfl ?_
      refine sw_icmp_ge 51 33 dX3_addPrime_30 (by decide) rfl (fun c30 => ?_) (fun c30 => ?_)
      · exact absurd c30 (by rw [show Int32.ofNat 4 = zI 4 from rfl, zI_le (by omega) (by omega) (by omega) (by omega)]; omega)
      · refine sw_aload_n 34 dX3_addPrime_33 rfl rfl rfl ?_
        refine sw_iload 36 dX3_addPrime_34 rfl rfl ?_
        refine sw_aald (b := (8 + 2 * j)) (t := 0) 37 dX3_addPrime_36 rfl ⟨by decide, rfl⟩ (by decide) (by assumption) (by first | assumption | rfl) ?_
        refine sw_astore (lc' := [(0, _), (1, _), (2, _), (3, _), (4, _), (5, _), (6, _)]) 39 dX3_addPrime_37 rfl (by decide) rfl ?_
        refine sw_aload 41 dX3_addPrime_39 rfl rfl ?_
        refine sw_iload_n 42 dX3_addPrime_41 rfl rfl rfl ?_
        refine sw_invVV 45 dX3_addPrime_42 rfl lk_RX3_36 (c_U_insertPower hU (show insAt p v n < 4 by omega)) (by first | assumption | exact ⟨by decide, rfl⟩) rfl rfl (Nat.le_of_ble_eq_true rfl) (fun h42 hq42 => ?_)
        subst hq42
        refine sw_iinc (v := zI 1) (lc' := [(0, _), (1, _), (2, _), (3, _), (4, _), (5, _), (6, _)]) 48 dX3_addPrime_45 rfl (by decide) rfl rfl rfl ?_
        refine sw_goto 26 dX3_addPrime_48 (by decide) ?_
        rw [zI_add, shMap_step]
        exact sw_wp_sub (by simp) (ih (j + 1) (by omega))
  refine sw_aload_n 1 dX3_addPrime_0 rfl rfl rfl ?_
  refine sw_getR (b := 2) 4 dX3_addPrime_1 rfl gf_RX3_12 (fun _ _ _ _ => rfl) ⟨by decide, rfl⟩ rfl ?_
  refine sw_iload_n 5 dX3_addPrime_4 rfl rfl rfl ?_
  refine sw_invVI 8 dX3_addPrime_5 rfl lk_RX3_32 (c_B_insert isB_now V hn (by omega) (by omega)) ⟨by decide, rfl⟩ rfl rfl (Nat.le_of_ble_eq_true rfl) (fun r5 h5 hq5 => ?_)
  obtain ⟨rfl, rfl⟩ := hq5
  refine sw_istore_n (lc' := [(0, _), (1, _), (2, _)]) 9 dX3_addPrime_8 rfl rfl (by decide) rfl ?_
  refine sw_iload_n 10 dX3_addPrime_9 rfl rfl rfl ?_
  refine sw_if_ge 14 13 dX3_addPrime_10 (by decide) rfl (fun c10 => ?_) (fun c10 => ?_)
  · refine sw_aload_n 15 dX3_addPrime_14 rfl rfl rfl ?_
    refine sw_getR (b := 5) 18 dX3_addPrime_15 rfl gf_RX3_20 (fun _ _ _ _ => rfl) ⟨by decide, rfl⟩ rfl ?_
    refine sw_astore_n (lc' := [(0, _), (1, _), (2, _), (3, _)]) 19 dX3_addPrime_18 rfl rfl (by decide) rfl ?_
    refine sw_aload_n 20 dX3_addPrime_19 rfl rfl rfl ?_
    refine sw_alen 21 dX3_addPrime_20 rfl ⟨by decide, rfl⟩ (by decide) ?_
    refine sw_istore (lc' := [(0, _), (1, _), (2, _), (3, _), (4, _)]) 23 dX3_addPrime_21 rfl (by decide) rfl ?_
    refine sw_iconst (v := zI 0) 24 dX3_addPrime_23 rfl (by decide) ?_
    refine sw_istore (lc' := [(0, _), (1, _), (2, _), (3, _), (4, _), (5, _)]) 26 dX3_addPrime_24 rfl (by decide) rfl ?_
    rw [hg]
    have e := loop 4 0 (by omega)
    rw [shMap_0] at e
    exact e
  · exact absurd (by rw [z0, zI_le (by omega) (by omega) (by omega) (by omega)]; omega) c10
theorem c_D_removePrime (V : atB h 2 3 4 n p bx) {a : Nat} (ha : a < n) :
    sw_ct wA X l (d + 2) mX3_removePrime [.ref 1, .int (zI a)] h (sw_qV wA X fun h2 => h2 = shMap (fun f => va_up (rmR a 3 f) 3 (zI 0)) 4 (sw_wI (sw_pI (sw_pI h 3 (rmR a (n - 1) (h.1 3))) 4 (rmR a (n - 1) (h.1 4))) 2 2 (zI (n - 1 : Nat)))) := by
  have hn4 : n ≤ 4 := V.2.1
  generalize hg : sw_wI (sw_pI (sw_pI h 3 (rmR a (n - 1) (h.1 3))) 4 (rmR a (n - 1) (h.1 4))) 2 2 (zI (n - 1 : Nat)) = g
  refine sw_ct_of (by decide +kernel) (Nat.le_of_ble_eq_true rfl) rfl ?_
  have loop : ∀ m j : Nat, j + m = 4 → sw_wp wA X l (d + 2) mX3_removePrime (sw_qV wA X fun h2 => h2 = shMap (fun f => va_up (rmR a 3 f) 3 (zI 0)) 4 g) 19 [(0, .ref 1), (1, .int (zI a)), (2, .ref 5), (3, .int (Int32.ofNat 4)), (4, .int (zI j))] [] (shMap (fun f => va_up (rmR a 3 f) 3 (zI 0)) j g) := by
    intro m
    induction m with
    | zero =>
      intro j hj
      have : j = 4 := by omega
      subst this
      refine sw_iload 21 dX3_removePrime_19 rfl rfl ?_
      refine sw_iload_n 22 dX3_removePrime_21 rfl rfl rfl ?_
      refine sw_icmp_ge 43 25 dX3_removePrime_22 (by decide) rfl (fun c22 => ?_) (fun c22 => ?_)
      · exact sw_vret dX3_removePrime_43 rfl (rfl)
      · exact absurd (Int32.le_refl _) c22
    | succ m ih =>
      intro j hj
      have hin : vp_in (zI j) 4 := zI_inN (by omega) (by omega)
      have hrf := rf_now (j := j) (by omega)
      have hU := isU_now (j := j) (by omega)
      have hU1 := hU.1
      refine sw_iload 21 dX3_removePrime_19 rfl rfl ?_
      refine sw_iload_n 22 dX3_removePrime_21 rfl rfl rfl ?_
      refine sw_icmp_ge 43 25 dX3_removePrime_22 (by decide) rfl (fun c22 => ?_) (fun c22 => ?_)
      · exact absurd c22 (by rw [show Int32.ofNat 4 = zI 4 from rfl, zI_le (by omega) (by omega) (by omega) (by omega)]; omega)
      · refine sw_aload_n 26 dX3_removePrime_25 rfl rfl rfl ?_
        refine sw_iload 28 dX3_removePrime_26 rfl rfl ?_
        refine sw_aald (b := (8 + 2 * j)) (t := 0) 29 dX3_removePrime_28 rfl ⟨by decide, rfl⟩ (by decide) (by assumption) (by first | assumption | rfl) ?_
        refine sw_astore (lc' := [(0, _), (1, _), (2, _), (3, _), (4, _), (5, _)]) 31 dX3_removePrime_29 rfl (by decide) rfl ?_
        refine sw_aload 33 dX3_removePrime_31 rfl rfl ?_
        refine sw_iload_n 34 dX3_removePrime_33 rfl rfl rfl ?_
        refine sw_invVV 37 dX3_removePrime_34 rfl lk_RX3_47 (c_U_removePower hU (show a < 4 by omega)) (by first | assumption | exact ⟨by decide, rfl⟩) rfl rfl (Nat.le_of_ble_eq_true rfl) (fun h34 hq34 => ?_)
        subst hq34
        refine sw_iinc (v := zI 1) (lc' := [(0, _), (1, _), (2, _), (3, _), (4, _), (5, _)]) 40 dX3_removePrime_37 rfl (by decide) rfl rfl rfl ?_
        refine sw_goto 19 dX3_removePrime_40 (by decide) ?_
        rw [zI_add, shMap_step (fun f => va_up (rmR a 3 f) 3 (zI 0))]
        exact sw_wp_sub (by simp) (ih (j + 1) (by omega))
  refine sw_aload_n 1 dX3_removePrime_0 rfl rfl rfl ?_
  refine sw_getR (b := 2) 4 dX3_removePrime_1 rfl gf_RX3_12 (fun _ _ _ _ => rfl) ⟨by decide, rfl⟩ rfl ?_
  refine sw_iload_n 5 dX3_removePrime_4 rfl rfl rfl ?_
  refine sw_invVV 8 dX3_removePrime_5 rfl lk_RX3_44 (c_B_removeAt isB_now V ha) ⟨by decide, rfl⟩ rfl rfl (Nat.le_of_ble_eq_true rfl) (fun h5 hq5 => ?_)
  subst hq5
  refine sw_aload_n 9 dX3_removePrime_8 rfl rfl rfl ?_
  refine sw_getR (b := 5) 12 dX3_removePrime_9 rfl gf_RX3_20 (fun _ _ _ _ => rfl) ⟨by decide, rfl⟩ rfl ?_
  refine sw_astore_n (lc' := [(0, _), (1, _), (2, _)]) 13 dX3_removePrime_12 rfl rfl (by decide) rfl ?_
  refine sw_aload_n 14 dX3_removePrime_13 rfl rfl rfl ?_
  refine sw_alen 15 dX3_removePrime_14 rfl ⟨by decide, rfl⟩ (by decide) ?_
  refine sw_istore_n (lc' := [(0, _), (1, _), (2, _), (3, _)]) 16 dX3_removePrime_15 rfl rfl (by decide) rfl ?_
  refine sw_iconst (v := zI 0) 17 dX3_removePrime_16 rfl (by decide) ?_
  refine sw_istore (lc' := [(0, _), (1, _), (2, _), (3, _), (4, _)]) 19 dX3_removePrime_17 rfl (by decide) rfl ?_
  rw [hg]
  have e := loop 4 0 (by omega)
  rw [shMap_0] at e
  exact e
/-- copy to kept from now: the desk's cells hold what the other's hold -/
theorem c_D_copy_image : sw_ct wA X l (d + 2) mX3_copy [.ref 16, .ref 1] h (sw_qV wA X fun h2 => (∀ i, i < 4 → h2.1 18 i = h.1 3 i ∧ h2.1 19 i = h.1 4 i ∧ h2.1 22 i = h.1 7 i) ∧ h2.1 17 2 = h.1 2 2 ∧ h2.1 21 1 = h.1 6 1 ∧ (∀ s, s < 4 → h2.1 (23 + 2 * s) 1 = h.1 (8 + 2 * s) 1 ∧ ∀ i, i < 4 → h2.1 (24 + 2 * s) i = h.1 (9 + 2 * s) i) ∧ (∀ a, a < 16 ∨ 31 ≤ a → h2.1 a = h.1 a) ∧ h2.2 = h.2) := by
  refine sw_ct_of (by decide +kernel) (Nat.le_of_ble_eq_true rfl) rfl ?_
  have loop : ∀ (m j : Nat) (g : sw_H), j + m = 4 → ((∀ i, i < 4 → g.1 18 i = h.1 3 i ∧ g.1 19 i = h.1 4 i ∧ g.1 22 i = h.1 7 i) ∧ g.1 17 2 = h.1 2 2 ∧ g.1 21 1 = h.1 6 1 ∧ (∀ s, s < j → g.1 (23 + 2 * s) 1 = h.1 (8 + 2 * s) 1 ∧ ∀ i, i < 4 → g.1 (24 + 2 * s) i = h.1 (9 + 2 * s) i) ∧ (∀ a, a < 16 ∨ 31 ≤ a → g.1 a = h.1 a) ∧ g.2 = h.2) → sw_wp wA X l (d + 2) mX3_copy (sw_qV wA X fun h2 => (∀ i, i < 4 → h2.1 18 i = h.1 3 i ∧ h2.1 19 i = h.1 4 i ∧ h2.1 22 i = h.1 7 i) ∧ h2.1 17 2 = h.1 2 2 ∧ h2.1 21 1 = h.1 6 1 ∧ (∀ s, s < 4 → h2.1 (23 + 2 * s) 1 = h.1 (8 + 2 * s) 1 ∧ ∀ i, i < 4 → h2.1 (24 + 2 * s) i = h.1 (9 + 2 * s) i) ∧ (∀ a, a < 16 ∨ 31 ≤ a → h2.1 a = h.1 a) ∧ h2.2 = h.2) 24 [(0, .ref 16), (1, .ref 1), (2, .int (zI j))] [] g := by
    intro m
    induction m with
    | zero =>
      intro j g hj G
      have : j = 4 := by omega
      subst this
      refine sw_iload_n 25 dX3_copy_24 rfl rfl rfl ?_
      refine sw_iconst (v := zI 4) 26 dX3_copy_25 rfl (by decide) ?_
      refine sw_icmp_ge 50 29 dX3_copy_26 (by decide) rfl (fun c26 => ?_) (fun c26 => ?_)
      · exact sw_vret dX3_copy_50 rfl (G)
      · exact absurd (Int32.le_refl _) c26
    | succ m ih =>
      intro j g hj G
      obtain ⟨G1, G2, G3, G4, G5, G6⟩ := G
      have hin : vp_in (zI j) 4 := zI_inN (by omega) (by omega)
      have hr1 := rf_kept (j := j) (by omega)
      have hr2 := rf_now (j := j) (by omega)
      have hU := isU_kept (j := j) (by omega)
      have hV := isU_now (j := j) (by omega)
      have hU1 := hU.1
      refine sw_iload_n 25 dX3_copy_24 rfl rfl rfl ?_
      refine sw_iconst (v := zI 4) 26 dX3_copy_25 rfl (by decide) ?_
      refine sw_icmp_ge 50 29 dX3_copy_26 (by decide) rfl (fun c26 => ?_) (fun c26 => ?_)
      · exact absurd c26 (by rw [zI_le (by omega) (by omega) (by omega) (by omega)]; omega)
      · refine sw_aload_n 30 dX3_copy_29 rfl rfl rfl ?_
        refine sw_getR (b := 20) 33 dX3_copy_30 rfl gf_RX3_20 (fun _ _ _ _ => rfl) ⟨by decide, rfl⟩ rfl ?_
        refine sw_iload_n 34 dX3_copy_33 rfl rfl rfl ?_
        refine sw_aald (b := (23 + 2 * j)) (t := 0) 35 dX3_copy_34 rfl ⟨by decide, rfl⟩ (by decide) (by assumption) (by first | assumption | rfl) ?_
        refine sw_aload_n 36 dX3_copy_35 rfl rfl rfl ?_
        refine sw_getR (b := 5) 39 dX3_copy_36 rfl gf_RX3_20 (fun _ _ _ _ => rfl) ⟨by decide, rfl⟩ rfl ?_
        refine sw_iload_n 40 dX3_copy_39 rfl rfl rfl ?_
        refine sw_aald (b := (8 + 2 * j)) (t := 0) 41 dX3_copy_40 rfl ⟨by decide, rfl⟩ (by decide) (by assumption) (by first | assumption | rfl) ?_
        refine sw_invVV 44 dX3_copy_41 rfl lk_RX3_57 (c_U_copy hU hV (by omega)) (by first | assumption | exact ⟨by decide, rfl⟩) rfl rfl (Nat.le_of_ble_eq_true rfl) (fun h41 hq41 => ?_)
        subst hq41
        refine sw_iinc (v := zI 1) (lc' := [(0, _), (1, _), (2, _)]) 47 dX3_copy_44 rfl (by decide) rfl rfl rfl ?_
        refine sw_goto 24 dX3_copy_47 (by decide) ?_
        rw [zI_add]
        refine ih (j + 1) _ (by omega) ⟨fun i hi => ?_, ?_, ?_, fun s hs => ?_, fun a ha => ?_, G6⟩
        · rw [uH_other (by omega) (by omega), uH_other (by omega) (by omega), uH_other (by omega) (by omega)]; exact G1 i hi
        · rw [uH_other (by omega) (by omega)]; exact G2
        · rw [uH_other (by omega) (by omega)]; exact G3
        · by_cases e : s = j
          · subst e
            rw [uH_sign hU, uH_row hU, G5 _ (by omega), G5 _ (by omega)]
            refine ⟨rfl, fun i hi => ?_⟩
            simp [va_cpy, hi]
          · rw [uH_other (by omega) (by omega), uH_other (by omega) (by omega)]
            exact G4 s (by omega)
        · rw [uH_other (by omega) (by omega)]; exact G5 a ha
  refine sw_aload_n 1 dX3_copy_0 rfl rfl rfl ?_
  refine sw_getR (b := 17) 4 dX3_copy_1 rfl gf_RX3_12 (fun _ _ _ _ => rfl) ⟨by decide, rfl⟩ rfl ?_
  refine sw_aload_n 5 dX3_copy_4 rfl rfl rfl ?_
  refine sw_getR (b := 2) 8 dX3_copy_5 rfl gf_RX3_12 (fun _ _ _ _ => rfl) ⟨by decide, rfl⟩ rfl ?_
  refine sw_invVV 11 dX3_copy_8 rfl lk_RX3_50 (c_B_copy isB_kept isB_now (by decide) (by decide) (by decide)) ⟨by decide, rfl⟩ rfl rfl (Nat.le_of_ble_eq_true rfl) (fun h8 hq8 => ?_)
  subst hq8
  refine sw_aload_n 12 dX3_copy_11 rfl rfl rfl ?_
  refine sw_getR (b := 21) 15 dX3_copy_12 rfl gf_RX3_27 (fun _ _ _ _ => rfl) ⟨by decide, rfl⟩ rfl ?_
  refine sw_aload_n 16 dX3_copy_15 rfl rfl rfl ?_
  refine sw_getR (b := 6) 19 dX3_copy_16 rfl gf_RX3_27 (fun _ _ _ _ => rfl) ⟨by decide, rfl⟩ rfl ?_
  refine sw_invVV 22 dX3_copy_19 rfl lk_RX3_54 (c_S_copy isS_kept isS_now (by decide)) ⟨by decide, rfl⟩ rfl rfl (Nat.le_of_ble_eq_true rfl) (fun h19 hq19 => ?_)
  subst hq19
  refine sw_iconst (v := zI 0) 23 dX3_copy_22 rfl (by decide) ?_
  refine sw_istore_n (lc' := [(0, _), (1, _), (2, _)]) 24 dX3_copy_23 rfl rfl (by decide) rfl ?_
  refine loop 4 0 _ (by omega) ⟨fun i hi => ?_, ?_, ?_, fun s hs => by omega, fun a ha => ?_, rfl⟩
  · rw [sw_wI_ne (by decide), sw_pI_ne (by decide), sw_wI_ne (by decide), sw_pI_ne (by decide), sw_pI_at, sw_wI_ne (by decide), sw_pI_ne (by decide), sw_wI_ne (by decide), sw_pI_at, sw_wI_ne (by decide), sw_pI_at]
    simp only [sw_wI_ne (show 7 ≠ 17 by decide), sw_pI_ne (show 7 ≠ 19 by decide), sw_pI_ne (show 7 ≠ 18 by decide)]
    simp [va_cpy, hi]
  · rw [sw_wI_ne (by decide), sw_pI_ne (by decide), sw_wI_at]; simp [va_up]
  · rw [sw_wI_at]
    simp only [va_up, if_true]
    rw [sw_wI_ne (by decide), sw_pI_ne (by decide), sw_pI_ne (by decide)]
  · rw [sw_wI_ne (by omega), sw_pI_ne (by omega), sw_wI_ne (by omega), sw_pI_ne (by omega), sw_pI_ne (by omega)]
/-- copy to now from kept: the desk's cells hold what the other's hold -/
theorem c_D_copy_undo : sw_ct wA X l (d + 2) mX3_copy [.ref 1, .ref 16] h (sw_qV wA X fun h2 => (∀ i, i < 4 → h2.1 3 i = h.1 18 i ∧ h2.1 4 i = h.1 19 i ∧ h2.1 7 i = h.1 22 i) ∧ h2.1 2 2 = h.1 17 2 ∧ h2.1 6 1 = h.1 21 1 ∧ (∀ s, s < 4 → h2.1 (8 + 2 * s) 1 = h.1 (23 + 2 * s) 1 ∧ ∀ i, i < 4 → h2.1 (9 + 2 * s) i = h.1 (24 + 2 * s) i) ∧ (∀ a, a < 1 ∨ 16 ≤ a → h2.1 a = h.1 a) ∧ h2.2 = h.2) := by
  refine sw_ct_of (by decide +kernel) (Nat.le_of_ble_eq_true rfl) rfl ?_
  have loop : ∀ (m j : Nat) (g : sw_H), j + m = 4 → ((∀ i, i < 4 → g.1 3 i = h.1 18 i ∧ g.1 4 i = h.1 19 i ∧ g.1 7 i = h.1 22 i) ∧ g.1 2 2 = h.1 17 2 ∧ g.1 6 1 = h.1 21 1 ∧ (∀ s, s < j → g.1 (8 + 2 * s) 1 = h.1 (23 + 2 * s) 1 ∧ ∀ i, i < 4 → g.1 (9 + 2 * s) i = h.1 (24 + 2 * s) i) ∧ (∀ a, a < 1 ∨ 16 ≤ a → g.1 a = h.1 a) ∧ g.2 = h.2) → sw_wp wA X l (d + 2) mX3_copy (sw_qV wA X fun h2 => (∀ i, i < 4 → h2.1 3 i = h.1 18 i ∧ h2.1 4 i = h.1 19 i ∧ h2.1 7 i = h.1 22 i) ∧ h2.1 2 2 = h.1 17 2 ∧ h2.1 6 1 = h.1 21 1 ∧ (∀ s, s < 4 → h2.1 (8 + 2 * s) 1 = h.1 (23 + 2 * s) 1 ∧ ∀ i, i < 4 → h2.1 (9 + 2 * s) i = h.1 (24 + 2 * s) i) ∧ (∀ a, a < 1 ∨ 16 ≤ a → h2.1 a = h.1 a) ∧ h2.2 = h.2) 24 [(0, .ref 1), (1, .ref 16), (2, .int (zI j))] [] g := by
    intro m
    induction m with
    | zero =>
      intro j g hj G
      have : j = 4 := by omega
      subst this
      refine sw_iload_n 25 dX3_copy_24 rfl rfl rfl ?_
      refine sw_iconst (v := zI 4) 26 dX3_copy_25 rfl (by decide) ?_
      refine sw_icmp_ge 50 29 dX3_copy_26 (by decide) rfl (fun c26 => ?_) (fun c26 => ?_)
      · exact sw_vret dX3_copy_50 rfl (G)
      · exact absurd (Int32.le_refl _) c26
    | succ m ih =>
      intro j g hj G
      obtain ⟨G1, G2, G3, G4, G5, G6⟩ := G
      have hin : vp_in (zI j) 4 := zI_inN (by omega) (by omega)
      have hr1 := rf_now (j := j) (by omega)
      have hr2 := rf_kept (j := j) (by omega)
      have hU := isU_now (j := j) (by omega)
      have hV := isU_kept (j := j) (by omega)
      have hU1 := hU.1
      refine sw_iload_n 25 dX3_copy_24 rfl rfl rfl ?_
      refine sw_iconst (v := zI 4) 26 dX3_copy_25 rfl (by decide) ?_
      refine sw_icmp_ge 50 29 dX3_copy_26 (by decide) rfl (fun c26 => ?_) (fun c26 => ?_)
      · exact absurd c26 (by rw [zI_le (by omega) (by omega) (by omega) (by omega)]; omega)
      · refine sw_aload_n 30 dX3_copy_29 rfl rfl rfl ?_
        refine sw_getR (b := 5) 33 dX3_copy_30 rfl gf_RX3_20 (fun _ _ _ _ => rfl) ⟨by decide, rfl⟩ rfl ?_
        refine sw_iload_n 34 dX3_copy_33 rfl rfl rfl ?_
        refine sw_aald (b := (8 + 2 * j)) (t := 0) 35 dX3_copy_34 rfl ⟨by decide, rfl⟩ (by decide) (by assumption) (by first | assumption | rfl) ?_
        refine sw_aload_n 36 dX3_copy_35 rfl rfl rfl ?_
        refine sw_getR (b := 20) 39 dX3_copy_36 rfl gf_RX3_20 (fun _ _ _ _ => rfl) ⟨by decide, rfl⟩ rfl ?_
        refine sw_iload_n 40 dX3_copy_39 rfl rfl rfl ?_
        refine sw_aald (b := (23 + 2 * j)) (t := 0) 41 dX3_copy_40 rfl ⟨by decide, rfl⟩ (by decide) (by assumption) (by first | assumption | rfl) ?_
        refine sw_invVV 44 dX3_copy_41 rfl lk_RX3_57 (c_U_copy hU hV (by omega)) (by first | assumption | exact ⟨by decide, rfl⟩) rfl rfl (Nat.le_of_ble_eq_true rfl) (fun h41 hq41 => ?_)
        subst hq41
        refine sw_iinc (v := zI 1) (lc' := [(0, _), (1, _), (2, _)]) 47 dX3_copy_44 rfl (by decide) rfl rfl rfl ?_
        refine sw_goto 24 dX3_copy_47 (by decide) ?_
        rw [zI_add]
        refine ih (j + 1) _ (by omega) ⟨fun i hi => ?_, ?_, ?_, fun s hs => ?_, fun a ha => ?_, G6⟩
        · rw [uH_other (by omega) (by omega), uH_other (by omega) (by omega), uH_other (by omega) (by omega)]; exact G1 i hi
        · rw [uH_other (by omega) (by omega)]; exact G2
        · rw [uH_other (by omega) (by omega)]; exact G3
        · by_cases e : s = j
          · subst e
            rw [uH_sign hU, uH_row hU, G5 _ (by omega), G5 _ (by omega)]
            refine ⟨rfl, fun i hi => ?_⟩
            simp [va_cpy, hi]
          · rw [uH_other (by omega) (by omega), uH_other (by omega) (by omega)]
            exact G4 s (by omega)
        · rw [uH_other (by omega) (by omega)]; exact G5 a ha
  refine sw_aload_n 1 dX3_copy_0 rfl rfl rfl ?_
  refine sw_getR (b := 2) 4 dX3_copy_1 rfl gf_RX3_12 (fun _ _ _ _ => rfl) ⟨by decide, rfl⟩ rfl ?_
  refine sw_aload_n 5 dX3_copy_4 rfl rfl rfl ?_
  refine sw_getR (b := 17) 8 dX3_copy_5 rfl gf_RX3_12 (fun _ _ _ _ => rfl) ⟨by decide, rfl⟩ rfl ?_
  refine sw_invVV 11 dX3_copy_8 rfl lk_RX3_50 (c_B_copy isB_now isB_kept (by decide) (by decide) (by decide)) ⟨by decide, rfl⟩ rfl rfl (Nat.le_of_ble_eq_true rfl) (fun h8 hq8 => ?_)
  subst hq8
  refine sw_aload_n 12 dX3_copy_11 rfl rfl rfl ?_
  refine sw_getR (b := 6) 15 dX3_copy_12 rfl gf_RX3_27 (fun _ _ _ _ => rfl) ⟨by decide, rfl⟩ rfl ?_
  refine sw_aload_n 16 dX3_copy_15 rfl rfl rfl ?_
  refine sw_getR (b := 21) 19 dX3_copy_16 rfl gf_RX3_27 (fun _ _ _ _ => rfl) ⟨by decide, rfl⟩ rfl ?_
  refine sw_invVV 22 dX3_copy_19 rfl lk_RX3_54 (c_S_copy isS_now isS_kept (by decide)) ⟨by decide, rfl⟩ rfl rfl (Nat.le_of_ble_eq_true rfl) (fun h19 hq19 => ?_)
  subst hq19
  refine sw_iconst (v := zI 0) 23 dX3_copy_22 rfl (by decide) ?_
  refine sw_istore_n (lc' := [(0, _), (1, _), (2, _)]) 24 dX3_copy_23 rfl rfl (by decide) rfl ?_
  refine loop 4 0 _ (by omega) ⟨fun i hi => ?_, ?_, ?_, fun s hs => by omega, fun a ha => ?_, rfl⟩
  · rw [sw_wI_ne (by decide), sw_pI_ne (by decide), sw_wI_ne (by decide), sw_pI_ne (by decide), sw_pI_at, sw_wI_ne (by decide), sw_pI_ne (by decide), sw_wI_ne (by decide), sw_pI_at, sw_wI_ne (by decide), sw_pI_at]
    simp only [sw_wI_ne (show 22 ≠ 2 by decide), sw_pI_ne (show 22 ≠ 4 by decide), sw_pI_ne (show 22 ≠ 3 by decide)]
    simp [va_cpy, hi]
  · rw [sw_wI_ne (by decide), sw_pI_ne (by decide), sw_wI_at]; simp [va_up]
  · rw [sw_wI_at]
    simp only [va_up, if_true]
    rw [sw_wI_ne (by decide), sw_pI_ne (by decide), sw_pI_ne (by decide)]
  · rw [sw_wI_ne (by omega), sw_pI_ne (by omega), sw_wI_ne (by omega), sw_pI_ne (by omega), sw_pI_ne (by omega)]
-- Lists: 70, rows 71 (72, 73, 74), sizes 75
theorem rf_list {j : Nat} (hj : j < 3) : wA.2.2 71 (zI j).toNatClampNeg = 72 + j := by
  have : j = 0 ∨ j = 1 ∨ j = 2 := by omega
  rcases this with rfl | rfl | rfl <;> rfl
theorem sh_list {j : Nat} (hj : j < 3) : sw_r wA (72 + j) 1 20 := by
  have : j = 0 ∨ j = 1 ∨ j = 2 := by omega
  rcases this with rfl | rfl | rfl <;> exact ⟨by decide, rfl⟩
theorem c_T_start {j : Nat} (hj : j < 3) (z : Int) : sw_ct wA X l (d + 1) mX4_start [.ref 70, .int (zI j), .int (zI z)] h (sw_qV wA X fun h2 => h2 = sw_wI (sw_pL h (72 + j) (fun i => if i < 20 then zL 0 else h.2 (72 + j) i)) 75 j (zI z)) := by
  have hin : vp_in (zI j) 3 := zI_inN hj (by omega)
  have hrf := rf_list hj
  have hsh := sh_list hj
  refine sw_ct_of (by decide +kernel) (Nat.le_of_ble_eq_true rfl) rfl ?_
  refine sw_aload_n 1 dX4_start_0 rfl rfl rfl ?_
  refine sw_getR (b := 71) 4 dX4_start_1 rfl gf_RX4_11 (fun _ _ _ _ => rfl) ⟨by decide, rfl⟩ rfl ?_
  refine sw_iload_n 5 dX4_start_4 rfl rfl rfl ?_
  refine sw_aald (b := (72 + j)) (t := 3) 6 dX4_start_5 rfl ⟨by decide, rfl⟩ (by decide) (by assumption) (by first | assumption | rfl) ?_
  refine sw_lconst (v := zL 0) 7 dX4_start_6 rfl (by decide) ?_
  refine sw_invSV 10 dX4_start_7 rfl lk_RX4_26 (c_fillL hsh (by omega) _) rfl rfl (Nat.le_of_ble_eq_true rfl) (fun h7 hq7 => ?_)
  subst hq7
  refine sw_aload_n 11 dX4_start_10 rfl rfl rfl ?_
  refine sw_getR (b := 75) 14 dX4_start_11 rfl gf_RX4_16 (fun _ _ _ _ => rfl) ⟨by decide, rfl⟩ rfl ?_
  refine sw_iload_n 15 dX4_start_14 rfl rfl rfl ?_
  refine sw_iload_n 16 dX4_start_15 rfl rfl rfl ?_
  refine sw_iast 17 dX4_start_16 rfl ⟨by decide, rfl⟩ (by assumption) ?_
  exact sw_vret dX4_start_17 rfl (by rw [zI_clampN (by omega)])
theorem c_T_isMissing {j : Nat} (hj : j < 3) {z : Int} (hz : h.1 75 j = zI z) (z1 : -1 ≤ z) (z2 : z ≤ 20) : sw_ct wA X l d mX4_isMissing [.ref 70, .int (zI j)] h (sw_qI wA X fun r h2 => h2 = h ∧ r = zI (if z < 0 then 1 else 0)) := by
  have hin : vp_in (zI j) 3 := zI_inN hj (by omega)
  refine sw_ct_of (by decide +kernel) (Nat.le_of_ble_eq_true rfl) rfl ?_
  refine sw_aload_n 1 dX4_isMissing_0 rfl rfl rfl ?_
  refine sw_getR (b := 75) 4 dX4_isMissing_1 rfl gf_RX4_16 (fun _ _ _ _ => rfl) ⟨by decide, rfl⟩ rfl ?_
  refine sw_iload_n 5 dX4_isMissing_4 rfl rfl rfl ?_
  refine sw_iald 6 dX4_isMissing_5 rfl ⟨by decide, rfl⟩ (by assumption) ?_
  rw [zI_clampN (by omega), hz]
  refine sw_if_ge 13 9 dX4_isMissing_6 (by decide) rfl (fun c6 => ?_) (fun c6 => ?_)
  · refine sw_iconst (v := zI 0) 14 dX4_isMissing_13 rfl (by decide) ?_
    exact sw_zret (by first | exact Or.inl rfl | exact Or.inr rfl | assumption) dX4_isMissing_14 rfl (⟨rfl, by
  rw [z0, zI_le (by omega) (by omega) (by omega) (by omega)] at c6
  first | rw [if_pos (by omega)] | rw [if_neg (by omega)]⟩)
  · refine sw_iconst (v := zI 1) 10 dX4_isMissing_9 rfl (by decide) ?_
    refine sw_goto 14 dX4_isMissing_10 (by decide) ?_
    exact sw_zret (by first | exact Or.inl rfl | exact Or.inr rfl | assumption) dX4_isMissing_14 rfl (⟨rfl, by
  rw [z0, zI_le (by omega) (by omega) (by omega) (by omega)] at c6
  first | rw [if_pos (by omega)] | rw [if_neg (by omega)]⟩)
theorem c_T_has {j : Nat} (hj : j < 3) {z : Int} (hz : h.1 75 j = zI z) (z1 : -1 ≤ z) (z2 : z ≤ 20) {i : Int} (i1 : -2147483648 ≤ i) (i2 : i < 2147483648) : sw_ct wA X l d mX4_has [.ref 70, .int (zI j), .int (zI i)] h (sw_qI wA X fun r h2 => h2 = h ∧ r = zI (if 0 ≤ i ∧ i < z then 1 else 0)) := by
  have hin : vp_in (zI j) 3 := zI_inN hj (by omega)
  refine sw_ct_of (by decide +kernel) (Nat.le_of_ble_eq_true rfl) rfl ?_
  refine sw_iload_n 1 dX4_has_0 rfl rfl rfl ?_
  refine sw_if_lt 18 4 dX4_has_1 (by decide) rfl (fun c1 => ?_) (fun c1 => ?_)
  · refine sw_iconst (v := zI 0) 19 dX4_has_18 rfl (by decide) ?_
    exact sw_zret (by first | exact Or.inl rfl | exact Or.inr rfl | assumption) dX4_has_19 rfl (⟨rfl, by
  rw [z0, zI_lt (by omega) (by omega) (by omega) (by omega)] at c1
  try rw [zI_le (by omega) (by omega) (by omega) (by omega)] at c11
  first | rw [if_pos (by omega)] | rw [if_neg (by omega)]⟩)
  · refine sw_iload_n 5 dX4_has_4 rfl rfl rfl ?_
    refine sw_aload_n 6 dX4_has_5 rfl rfl rfl ?_
    refine sw_getR (b := 75) 9 dX4_has_6 rfl gf_RX4_16 (fun _ _ _ _ => rfl) ⟨by decide, rfl⟩ rfl ?_
    refine sw_iload_n 10 dX4_has_9 rfl rfl rfl ?_
    refine sw_iald 11 dX4_has_10 rfl ⟨by decide, rfl⟩ (by assumption) ?_
    rw [zI_clampN (by omega), hz]
    refine sw_icmp_ge 18 14 dX4_has_11 (by decide) rfl (fun c11 => ?_) (fun c11 => ?_)
    · refine sw_iconst (v := zI 0) 19 dX4_has_18 rfl (by decide) ?_
      exact sw_zret (by first | exact Or.inl rfl | exact Or.inr rfl | assumption) dX4_has_19 rfl (⟨rfl, by
  rw [z0, zI_lt (by omega) (by omega) (by omega) (by omega)] at c1
  try rw [zI_le (by omega) (by omega) (by omega) (by omega)] at c11
  first | rw [if_pos (by omega)] | rw [if_neg (by omega)]⟩)
    · refine sw_iconst (v := zI 1) 15 dX4_has_14 rfl (by decide) ?_
      refine sw_goto 19 dX4_has_15 (by decide) ?_
      exact sw_zret (by first | exact Or.inl rfl | exact Or.inr rfl | assumption) dX4_has_19 rfl (⟨rfl, by
  rw [z0, zI_lt (by omega) (by omega) (by omega) (by omega)] at c1
  try rw [zI_le (by omega) (by omega) (by omega) (by omega)] at c11
  first | rw [if_pos (by omega)] | rw [if_neg (by omega)]⟩)
def thereN (sz : Nat → Int) : Nat → Nat
  | 0 => 0
  | i + 1 => thereN sz i + if 0 ≤ sz i then 1 else 0
theorem c_T_howManyThere {sz : Nat → Int} (hz : ∀ j, j < 3 → h.1 75 j = zI (sz j) ∧ -1 ≤ sz j ∧ sz j ≤ 20) : sw_ct wA X l d mX4_howManyThere [.ref 70] h (sw_qI wA X fun r h2 => h2 = h ∧ r = zI (thereN sz 3)) := by
  refine sw_ct_of (by decide +kernel) (Nat.le_of_ble_eq_true rfl) rfl ?_
  have loop : ∀ m j : Nat, j + m = 3 → sw_wp wA X l d mX4_howManyThere (sw_qI wA X fun r h2 => h2 = h ∧ r = zI (thereN sz 3)) 13 [(0, .ref 70), (1, .int (zI (thereN sz j))), (2, .ref 75), (3, .int (Int32.ofNat 3)), (4, .int (zI j))] [] h := by
    intro m
    induction m with
    | zero =>
      intro j hj
      have : j = 3 := by omega
      subst this
      refine sw_iload 15 dX4_howManyThere_13 rfl rfl ?_
      refine sw_iload_n 16 dX4_howManyThere_15 rfl rfl rfl ?_
      refine sw_icmp_ge 39 19 dX4_howManyThere_16 (by decide) rfl (fun c16 => ?_) (fun c16 => ?_)
      · refine sw_iload_n 40 dX4_howManyThere_39 rfl rfl rfl ?_
        exact sw_iret dX4_howManyThere_40 rfl (⟨rfl, rfl⟩)
      · exact absurd (Int32.le_refl _) c16
    | succ m ih =>
      intro j hj
      have hv := hz j (by omega)
      have hin : vp_in (zI j) 3 := zI_inN (by omega) (by omega)
      have e9 : thereN sz (j + 1) = thereN sz j + if 0 ≤ sz j then 1 else 0 := rfl
      have i9 := ih (j + 1) (by omega)
      refine sw_iload 15 dX4_howManyThere_13 rfl rfl ?_
      refine sw_iload_n 16 dX4_howManyThere_15 rfl rfl rfl ?_
      refine sw_icmp_ge 39 19 dX4_howManyThere_16 (by decide) rfl (fun c16 => ?_) (fun c16 => ?_)
      · exact absurd c16 (by rw [show Int32.ofNat 3 = zI 3 from rfl, zI_le (by omega) (by omega) (by omega) (by omega)]; omega)
      · refine sw_aload_n 20 dX4_howManyThere_19 rfl rfl rfl ?_
        refine sw_iload 22 dX4_howManyThere_20 rfl rfl ?_
        refine sw_iald 23 dX4_howManyThere_22 rfl ⟨by decide, rfl⟩ (by assumption) ?_
        rw [zI_clampN (by omega), hv.1]
        refine sw_istore (lc' := [(0, _), (1, _), (2, _), (3, _), (4, _), (5, _)]) 25 dX4_howManyThere_23 rfl (by decide) rfl ?_
        refine sw_iload 27 dX4_howManyThere_25 rfl rfl ?_
        refine sw_if_lt 33 30 dX4_howManyThere_27 (by decide) rfl (fun c27 => ?_) (fun c27 => ?_)
        · refine sw_iinc (v := zI 1) (lc' := [(0, _), (1, _), (2, _), (3, _), (4, _), (5, _)]) 36 dX4_howManyThere_33 rfl (by decide) rfl rfl rfl ?_
          refine sw_goto 13 dX4_howManyThere_36 (by decide) ?_
          rw [z0, zI_lt (by omega) (by omega) (by omega) (by omega)] at c27
          rw [e9, if_neg (by omega), Nat.add_zero] at i9
          simp only [zI_add]
          exact sw_wp_sub (by simp) i9
        · refine sw_iinc (v := zI 1) (lc' := [(0, _), (1, _), (2, _), (3, _), (4, _), (5, _)]) 33 dX4_howManyThere_30 rfl (by decide) rfl rfl rfl ?_
          refine sw_iinc (v := zI 1) (lc' := [(0, _), (1, _), (2, _), (3, _), (4, _), (5, _)]) 36 dX4_howManyThere_33 rfl (by decide) rfl rfl rfl ?_
          refine sw_goto 13 dX4_howManyThere_36 (by decide) ?_
          rw [z0, zI_lt (by omega) (by omega) (by omega) (by omega)] at c27
          rw [e9, if_pos (by omega)] at i9
          simp only [zI_add]
          exact sw_wp_sub (by simp) i9
  refine sw_iconst (v := zI 0) 1 dX4_howManyThere_0 rfl (by decide) ?_
  refine sw_istore_n (lc' := [(0, _), (1, _)]) 2 dX4_howManyThere_1 rfl rfl (by decide) rfl ?_
  refine sw_aload_n 3 dX4_howManyThere_2 rfl rfl rfl ?_
  refine sw_getR (b := 75) 6 dX4_howManyThere_3 rfl gf_RX4_16 (fun _ _ _ _ => rfl) ⟨by decide, rfl⟩ rfl ?_
  refine sw_astore_n (lc' := [(0, _), (1, _), (2, _)]) 7 dX4_howManyThere_6 rfl rfl (by decide) rfl ?_
  refine sw_aload_n 8 dX4_howManyThere_7 rfl rfl rfl ?_
  refine sw_alen 9 dX4_howManyThere_8 rfl ⟨by decide, rfl⟩ (by decide) ?_
  refine sw_istore_n (lc' := [(0, _), (1, _), (2, _), (3, _)]) 10 dX4_howManyThere_9 rfl rfl (by decide) rfl ?_
  refine sw_iconst (v := zI 0) 11 dX4_howManyThere_10 rfl (by decide) ?_
  refine sw_istore (lc' := [(0, _), (1, _), (2, _), (3, _), (4, _)]) 13 dX4_howManyThere_11 rfl (by decide) rfl ?_
  exact loop 3 0 (by omega)
end sw_desk
