/-! THE CLASS'S CALLS, 2: units -/
theorem pow_le_l {x y : Int} (h0 : 0 ≤ x) (h1 : x ≤ y) : ∀ n : Nat, x ^ n ≤ y ^ n
  | 0 => by rw [Int.pow_zero, Int.pow_zero]; exact Int.le_refl _
  | n + 1 => by rw [Int.pow_succ, Int.pow_succ]; exact Int.mul_le_mul (pow_le_l h0 h1 n) h1 h0 (Int.pow_nonneg (by omega))
theorem pow_le_r {q : Int} (hq : 1 ≤ q) {i : Nat} : ∀ {j : Nat}, i ≤ j → q ^ i ≤ q ^ j
  | 0, h => by rw [show i = 0 by omega]; exact Int.le_refl _
  | j + 1, h => by
    by_cases e : i = j + 1
    · subst e; exact Int.le_refl _
    · have h1 := pow_le_r hq (show i ≤ j by omega)
      have h2 : 0 < q ^ j := Int.pow_pos (by omega)
      have h3 : q ^ j * 1 ≤ q ^ j * q := Int.mul_le_mul_of_nonneg_left hq (by omega)
      rw [Int.pow_succ]; omega
theorem side_b {p e : Nat → Int} {s : Int} (hs : s = 1 ∨ s = -1) : ∀ n, (∀ i, i < n → 2 ≤ p i) → (∀ i, i < n → -6 ≤ e i ∧ e i ≤ 6) → 0 < sideZ p e s n ∧ sideZ p e s n ≤ prodZ p n ^ 6
  | 0, _, _ => ⟨by show (0 : Int) < 1; decide, by show (1 : Int) ≤ 1 ^ 6; decide⟩
  | n + 1, hp, he => by
    have ih := side_b hs n (fun i hi => hp i (by omega)) (fun i hi => he i (by omega))
    have hpn := hp n (by omega)
    have hen := he n (by omega)
    have h1 : 0 < p n ^ (s * e n).toNat := Int.pow_pos (by omega)
    have h2 : p n ^ (s * e n).toNat ≤ p n ^ 6 := pow_le_r (by omega) (by rcases hs with rfl | rfl <;> omega)
    refine ⟨Int.mul_pos ih.1 h1, ?_⟩
    show sideZ p e s n * p n ^ (s * e n).toNat ≤ (prodZ p n * p n) ^ 6
    rw [Int.mul_pow]
    exact Int.mul_le_mul ih.2 h2 (by omega) (Int.pow_nonneg (Int.le_of_lt (prodZ_pos n (fun i hi => by have := hp i (by omega); omega))))
theorem pow6_le {x : Int} (h0 : 0 ≤ x) (h1 : x ≤ 1000) : x ^ 6 ≤ 1000000000000000000 := by
  have := pow_le_l h0 h1 6
  exact this
theorem sh_b {σ : SgZ} (K : okS σ) {a : Nat} (ha : a < 4) {s : Int} (hs : s = 1 ∨ s = -1) : 0 < sideZ σ.1.1.2.1 (σ.1.2.1.2 a) s σ.1.1.1 ∧ sideZ σ.1.1.2.1 (σ.1.2.1.2 a) s σ.1.1.1 ≤ 1000000000000000000 := by
  obtain ⟨k1, k2, k3, k4, k5⟩ := K.1.1
  have h1 := side_b (p := σ.1.1.2.1) (e := σ.1.2.1.2 a) hs σ.1.1.1 (fun i hi => (k2 i hi).2.1) (fun i hi => ⟨((K.1.2.1 a ha).2 i (by omega)).1, ((K.1.2.1 a ha).2 i (by omega)).2.1⟩)
  have h2 := pow6_le (x := prodZ σ.1.1.2.1 σ.1.1.1) (Int.le_of_lt (prodZ_pos _ (fun i hi => by have := (k2 i hi).2.1; omega))) k4
  omega
theorem shAB_b {σ : SgZ} (K : okS σ) {a : Nat} (ha : a < 4) : (shA0 σ a).natAbs ≤ 1000000000000000000 ∧ ¬ shA0 σ a = 0 ∧ 0 < shB0 σ a ∧ shB0 σ a ≤ 1000000000000000000 := by
  have h1 := sh_b K ha (s := 1) (Or.inl rfl)
  have h2 := sh_b K ha (s := -1) (Or.inr rfl)
  unfold shA0 shB0
  rcases (K.1.2.1 a ha).1 with e | e <;> rw [e] <;> omega
/-- a fraction is a unit; its sign, its powers -/
def frOK (n : Nat) (p : Nat → Int) (x y : Int) : Bool := decide (¬ x = 0 ∧ restZ p n x.natAbs = 1 ∧ restZ p n y = 1)
def frS (x : Int) : Int := if x < 0 then -1 else 1
def frU (n : Nat) (p : Nat → Int) (x y : Int) : Nat → Int := fun i => if i < n then frE p x.natAbs y i else 0
theorem frS_1 (x : Int) : frS x = 1 ∨ frS x = -1 := by unfold frS; split <;> simp
theorem frU_b (n : Nat) (p : Nat → Int) (x y : Int) (i : Nat) : -6 ≤ frU n p x y i ∧ frU n p x y i ≤ 6 ∧ (n ≤ i → frU n p x y i = 0) := by
  unfold frU
  by_cases h : i < n
  · rw [if_pos h]
    unfold frE
    have h1 := cntUp_le (p i) 6 (restZ p i x.natAbs)
    have h2 := cntUp_le (p i) 6 (restZ p i y)
    omega
  · rw [if_neg h]; omega
def mtOK (σ : SgZ) (s : Nat) : Bool := frOK σ.1.1.1 σ.1.1.2.1 (shB0 σ s - shA0 σ s) (shB0 σ s)
def opPartner (σ : SgZ) (s to : Int) : RgZ :=
  if (0 ≤ s ∧ s < 4) ∧ (0 ≤ to ∧ to < 4) then (if mtOK σ s.toNat = true then (1, setSh σ to.toNat (frS (shB0 σ s.toNat - shA0 σ s.toNat)) (frU σ.1.1.1 σ.1.1.2.1 (shB0 σ s.toNat - shA0 σ s.toNat) (shB0 σ s.toNat))) else (-5, σ)) else (-1, σ)
def fmA (σ : SgZ) (s k : Nat) : Int := formA (shA0 σ s) (shB0 σ s) (shB0 σ s - shA0 σ s) k
def fmB (σ : SgZ) (s k : Nat) : Int := formB (shA0 σ s) (shB0 σ s) (shB0 σ s - shA0 σ s) k
def opForm (σ : SgZ) (s k to : Int) : RgZ :=
  if (0 ≤ s ∧ s < 4) ∧ (0 ≤ to ∧ to < 4) ∧ (0 ≤ k ∧ k < 6) then
    (if mtOK σ s.toNat = true then (if frOK σ.1.1.1 σ.1.1.2.1 (fmA σ s.toNat k.toNat) (fmB σ s.toNat k.toNat) = true then (1, setSh σ to.toNat (frS (fmA σ s.toNat k.toNat)) (frU σ.1.1.1 σ.1.1.2.1 (fmA σ s.toNat k.toNat) (fmB σ s.toNat k.toNat))) else (-5, σ)) else (-5, σ)) else (-1, σ)
def opForms (σ : SgZ) (s : Int) : Int :=
  if 0 ≤ s ∧ s < 4 then (if mtOK σ s.toNat = true then unlikeN (shA0 σ s.toNat) (shB0 σ s.toNat) (shB0 σ s.toNat - shA0 σ s.toNat) 6 else -5) else -1
def pairsN (σ : SgZ) : Nat → Nat
  | 0 => 0
  | s + 1 => pairsN σ s + if mtOK σ s then 1 else 0
theorem uH_of_wI {h : sw_H} {u pu : Nat} {x : Int32} : sw_wI h u 1 x = uH h u pu (h.1 pu) x := by
  unfold uH; rw [sw_pI_self rfl]
theorem uH_of_up {w : sw_W} {h : sw_H} {u pu i : Nat} {x : Int32} (S : isU w u pu) : sw_wI h pu i x = uH h u pu (va_up (h.1 pu) i x) (h.1 u 1) := by
  rw [sw_wI_p, uH_pI S]
theorem IA_box {h : sw_H} {σ : SgZ} {a : Nat} {b : Int} (I : IA h σ) (ha : a < σ.1.1.1) : IA (sw_wI (sw_wI (sw_wI h 4 a (zI b)) 0 12 (zI 0)) 0 13 (zI 0)) (((σ.1.1.1, σ.1.1.2.1, va_up σ.1.1.2.2 a b), σ.1.2), σ.2) := by
  obtain ⟨w1, w2, w3, w4, w5⟩ := I.1
  have g0 : ∀ c, c ≠ 4 → (sw_wI h 4 a (zI b)).1 c = h.1 c := fun c hc => sw_wI_ne hc
  generalize hm : sw_wI h 4 a (zI b) = m at g0
  have m4 : m.1 4 = va_up (h.1 4) a (zI b) := by rw [← hm, sw_wI_at]
  have mL : m.2 = h.2 := by rw [← hm]; rfl
  obtain ⟨p1, p2, p3⟩ := pc_at (h := m)
  have pn : ∀ a, 0 < a → (sw_wI (sw_wI m 0 12 (zI 0)) 0 13 (zI 0)).1 a = m.1 a := fun a ha => (pc_ne ha).1
  refine IA_new I (fun c hc => ⟨by rw [pn c (by omega), g0 c (by omega)], by show m.2 c = _; rw [mL]⟩) (by rw [p1, g0 0 (by decide)]) ⟨?_, ?_, ?_, ?_, ?_⟩ p2 p3
  · rw [pn _ (by decide), g0 _ (by decide)]; exact w1
  · intro i hi
    rw [pn _ (by decide), pn _ (by decide), g0 3 (by decide), m4]
    refine ⟨(w2 i hi).1, ?_⟩
    show va_up (h.1 4) a (zI b) i = zI (va_up σ.1.1.2.2 a b i)
    by_cases c : i = a
    · simp only [va_up, if_pos c]
    · simp only [va_up, if_neg c]; exact (w2 i hi).2
  · intro s hs
    rw [pn _ (by omega), pn _ (by omega), g0 _ (by omega), g0 _ (by omega)]; exact w3 s hs
  · rw [pn _ (by decide), g0 _ (by decide)]; exact w4
  · intro i hi; rw [pn _ (by decide), g0 _ (by decide)]; exact w5 i hi
section sw_ops2
variable {X : sw_X} {l : Launch} {d : Nat} {h : sw_H} {σ : SgZ}
theorem c_frac {n : Nat} {p bx : Nat → Int} {x y : Int} (V : atB h 2 3 4 n p bx) (x1 : -9223372036854775808 < x) (x2 : x < 9223372036854775808) (y1 : 0 < y) (y2 : y < 9223372036854775808) :
    sw_ct wA X l (d + 2) mX10_setFraction [.ref 60, .ref 2, .long (zL x), .long (zL y)] h (sw_qI wA X fun r h2 => (∀ a, a ≠ 60 → a ≠ 61 → h2.1 a = h.1 a) ∧ h2.2 = h.2 ∧ r = bI (frOK n p x y) ∧ (frOK n p x y = true → atU h2 60 61 (frS x) (frU n p x y))) := by
  refine sw_ct_monoI ?_ (c_U_setFraction isU_work isB_now V (by decide) (by decide) (by decide) (by decide) x1 x2 (by omega) y2)
  rintro r h2 ⟨h3, h4⟩
  by_cases hx : x = 0
  · obtain ⟨rfl, rfl⟩ := h4 (Or.inl hx)
    have e : frOK n p x y = false := by unfold frOK; rw [decide_eq_false]; intro hh; exact hh.1 hx
    rw [e]
    exact ⟨fun a h1 h2 => uH_other h1 h2, rfl, rfl, fun h => absurd h (by decide)⟩
  · obtain ⟨rfl, rfl⟩ := h3 (by omega)
    refine ⟨fun a h1 h2 => uH_other h1 h2, rfl, ?_, fun hf => ⟨?_, fun i hi => ?_⟩⟩
    · unfold bI frOK
      by_cases c : restZ p n x.natAbs = 1 ∧ restZ p n y = 1
      · rw [if_pos c, decide_eq_true ⟨hx, c⟩]; rfl
      · rw [if_neg c, decide_eq_false (fun hh => c hh.2)]; rfl
    · rw [uH_sign isU_work]; rfl
    · rw [uH_row isU_work]
      unfold frR frU
      rw [if_pos hi]
      split <;> rfl
theorem a_box (K : okS σ) (I : IA h σ) {i b : Int} (i1 : -2147483648 ≤ i) (i2 : i < 2147483648) (b1 : -2147483648 ≤ b) (b2 : b < 2147483648) : sw_ct wA X l (d + 1) mX11_box [.ref 0, .int (zI i), .int (zI b)] h (sw_qI wA X fun r h2 => IA h2 (opBox σ i b).2 ∧ r = zI (opBox σ i b).1) := by
  have V := IA_B K I
  obtain ⟨v1, v2, v3, v4⟩ := V
  refine sw_ct_of (by decide +kernel) (Nat.le_of_ble_eq_true rfl) rfl ?_
  refine sw_aload_n 1 dX11_box_0 rfl rfl rfl ?_
  refine sw_getR (b := 1) 4 dX11_box_1 rfl gf_RX11_12 (fun _ _ _ _ => rfl) ⟨by decide, rfl⟩ rfl ?_
  refine sw_getR (b := 2) 7 dX11_box_4 rfl gf_RX11_86 (fun _ _ _ _ => rfl) ⟨by decide, rfl⟩ rfl ?_
  refine sw_iload_n 8 dX11_box_7 rfl rfl rfl ?_
  refine sw_invVI 11 dX11_box_8 rfl lk_RX11_110 (c_B_has isB_now v1 (by omega) i1 i2) ⟨by decide, rfl⟩ rfl rfl (Nat.le_of_ble_eq_true rfl) (fun r8 h8 hq8 => ?_)
  obtain ⟨rfl, rfl⟩ := hq8
  refine sw_if_ne 16 14 dX11_box_11 (by decide) rfl (fun c11 => ?_) (fun c11 => ?_)
  · rw [ifz_eq, Decidable.not_not] at c11
    obtain ⟨a, rfl⟩ := Int.eq_ofNat_of_zero_le c11.1
    have hin := zI_inN (a := a) (n := 4) (by omega) (by decide)
    refine sw_iload_n 17 dX11_box_16 rfl rfl rfl ?_
    refine sw_if_lt 25 20 dX11_box_17 (by decide) rfl (fun c17 => ?_) (fun c17 => ?_)
    · refine sw_bipush (v := zI (-2)) 27 dX11_box_25 rfl (by decide) ?_
      exact sw_iret dX11_box_27 rfl (by
  rw [z0, zI_lt (by omega) (by omega) (by omega) (by omega)] at c17
  unfold opBox; rw [if_pos c11, if_pos (by omega)]; exact ⟨I, rfl⟩)
    · rw [z0, zI_lt (by omega) (by omega) (by omega) (by omega)] at c17
      refine sw_iload_n 21 dX11_box_20 rfl rfl rfl ?_
      refine sw_iconst (v := zI 4) 22 dX11_box_21 rfl (by decide) ?_
      refine sw_icmp_le 28 25 dX11_box_22 (by decide) rfl (fun c22 => ?_) (fun c22 => ?_)
      · rw [zI_le (by omega) (by omega) (by omega) (by omega)] at c22
        refine sw_aload_n 29 dX11_box_28 rfl rfl rfl ?_
        refine sw_getR (b := 1) 32 dX11_box_29 rfl gf_RX11_12 (fun _ _ _ _ => rfl) ⟨by decide, rfl⟩ rfl ?_
        refine sw_getR (b := 2) 35 dX11_box_32 rfl gf_RX11_86 (fun _ _ _ _ => rfl) ⟨by decide, rfl⟩ rfl ?_
        refine sw_getR (b := 4) 38 dX11_box_35 rfl gf_RX11_121 (fun _ _ _ _ => rfl) ⟨by decide, rfl⟩ rfl ?_
        refine sw_iload_n 39 dX11_box_38 rfl rfl rfl ?_
        refine sw_iald 40 dX11_box_39 rfl ⟨by decide, rfl⟩ (by assumption) ?_
        refine sw_istore_n (lc' := [(0, _), (1, _), (2, _), (3, _)]) 41 dX11_box_40 rfl rfl (by decide) rfl ?_
        refine sw_aload_n 42 dX11_box_41 rfl rfl rfl ?_
        refine sw_getR (b := 1) 45 dX11_box_42 rfl gf_RX11_12 (fun _ _ _ _ => rfl) ⟨by decide, rfl⟩ rfl ?_
        refine sw_getR (b := 2) 48 dX11_box_45 rfl gf_RX11_86 (fun _ _ _ _ => rfl) ⟨by decide, rfl⟩ rfl ?_
        refine sw_getR (b := 4) 51 dX11_box_48 rfl gf_RX11_121 (fun _ _ _ _ => rfl) ⟨by decide, rfl⟩ rfl ?_
        refine sw_iload_n 52 dX11_box_51 rfl rfl rfl ?_
        refine sw_iload_n 53 dX11_box_52 rfl rfl rfl ?_
        refine sw_iast 54 dX11_box_53 rfl ⟨by decide, rfl⟩ (by assumption) ?_
        refine sw_aload_n 55 dX11_box_54 rfl rfl rfl ?_
        refine sw_invVV 58 dX11_box_55 rfl lk_RX11_107 (c_primesChanged) ⟨by decide, rfl⟩ rfl rfl (Nat.le_of_ble_eq_true rfl) (fun h55 hq55 => ?_)
        subst hq55
        refine sw_iload_n 59 dX11_box_58 rfl rfl rfl ?_
        exact sw_iret dX11_box_59 rfl (by
  unfold opBox; rw [if_pos c11, if_neg (by omega), zI_clampN (by omega)]
  exact ⟨IA_box I (by omega), (v4 a (by omega)).1⟩)
      · refine sw_bipush (v := zI (-2)) 27 dX11_box_25 rfl (by decide) ?_
        exact sw_iret dX11_box_27 rfl (by
  rw [zI_le (by omega) (by omega) (by omega) (by omega)] at c22
  unfold opBox; rw [if_pos c11, if_pos (by omega)]; exact ⟨I, rfl⟩)
  · rw [ifz_eq] at c11
    refine sw_iconst (v := zI (-1)) 15 dX11_box_14 rfl (by decide) ?_
    exact sw_iret dX11_box_15 rfl (⟨by unfold opBox; rw [if_neg c11]; exact I, by unfold opBox; rw [if_neg c11]⟩)
theorem a_put (K : okS σ) (I : IA h σ) {s i x : Int} (s1 : -2147483648 ≤ s) (s2 : s < 2147483648) (i1 : -2147483648 ≤ i) (i2 : i < 2147483648) (x1 : -2147483648 ≤ x) (x2 : x < 2147483648) : sw_ct wA X l (d + 1) mX11_put [.ref 0, .int (zI s), .int (zI i), .int (zI x)] h (sw_qI wA X fun r h2 => IA h2 (opPut σ s i x).2 ∧ r = zI (opPut σ s i x).1) := by
  have V := IA_B K I
  obtain ⟨v1, v2, v3, v4⟩ := V
  refine sw_ct_of (by decide +kernel) (Nat.le_of_ble_eq_true rfl) rfl ?_
  refine sw_iload_n 1 dX11_put_0 rfl rfl rfl ?_
  refine sw_invSI 4 dX11_put_1 rfl lk_RX11_124 (c_isShelf s1 s2) rfl rfl (Nat.le_of_ble_eq_true rfl) (fun r1 h1 hq1 => ?_)
  obtain ⟨rfl, rfl⟩ := hq1
  refine sw_if_eq 21 7 dX11_put_4 (by decide) rfl (fun c4 => ?_) (fun c4 => ?_)
  · refine sw_iconst (v := zI (-1)) 22 dX11_put_21 rfl (by decide) ?_
    exact sw_iret dX11_put_22 rfl (by
  rw [ifz_eq] at c4
  unfold opPut; rw [if_neg (fun hh => c4 hh.1)]; exact ⟨I, rfl⟩)
  · rw [ifz_eq, Decidable.not_not] at c4
    refine sw_aload_n 8 dX11_put_7 rfl rfl rfl ?_
    refine sw_getR (b := 1) 11 dX11_put_8 rfl gf_RX11_12 (fun _ _ _ _ => rfl) ⟨by decide, rfl⟩ rfl ?_
    refine sw_getR (b := 2) 14 dX11_put_11 rfl gf_RX11_86 (fun _ _ _ _ => rfl) ⟨by decide, rfl⟩ rfl ?_
    refine sw_iload_n 15 dX11_put_14 rfl rfl rfl ?_
    refine sw_invVI 18 dX11_put_15 rfl lk_RX11_110 (c_B_has isB_now v1 (by omega) i1 i2) ⟨by decide, rfl⟩ rfl rfl (Nat.le_of_ble_eq_true rfl) (fun r15 h15 hq15 => ?_)
    obtain ⟨rfl, rfl⟩ := hq15
    refine sw_if_ne 23 21 dX11_put_18 (by decide) rfl (fun c18 => ?_) (fun c18 => ?_)
    · rw [ifz_eq, Decidable.not_not] at c18
      obtain ⟨a, rfl⟩ := Int.eq_ofNat_of_zero_le c18.1
      obtain ⟨t, rfl⟩ := Int.eq_ofNat_of_zero_le c4.1
      have ht : t < 4 := by omega
      have hin := zI_inN (a := a) (n := 4) (by omega) (by decide)
      have hin2 := zI_inN (a := t) (n := 4) ht (by decide)
      have hrf := rf_now ht
      have hU := isU_now ht
      have hU1 := hU.1
      have hU2 := hU.2.1
      have hU3 := hU.2.2.1
      have hV := IA_U K I ht
      refine sw_iload_n 24 dX11_put_23 rfl rfl rfl ?_
      refine sw_bipush (v := zI (-6)) 26 dX11_put_24 rfl (by decide) ?_
      refine sw_icmp_lt 35 29 dX11_put_26 (by decide) rfl (fun c26 => ?_) (fun c26 => ?_)
      · refine sw_bipush (v := zI (-2)) 37 dX11_put_35 rfl (by decide) ?_
        exact sw_iret dX11_put_37 rfl (by
  rw [zI_lt (by omega) (by omega) (by omega) (by omega)] at c26
  unfold opPut; rw [if_pos ⟨c4, c18⟩, if_pos (by omega)]; exact ⟨I, rfl⟩)
      · rw [zI_lt (by omega) (by omega) (by omega) (by omega)] at c26
        refine sw_iload_n 30 dX11_put_29 rfl rfl rfl ?_
        refine sw_bipush (v := zI 6) 32 dX11_put_30 rfl (by decide) ?_
        refine sw_icmp_le 38 35 dX11_put_32 (by decide) rfl (fun c32 => ?_) (fun c32 => ?_)
        · rw [zI_le (by omega) (by omega) (by omega) (by omega)] at c32
          refine sw_aload_n 39 dX11_put_38 rfl rfl rfl ?_
          refine sw_getR (b := 1) 42 dX11_put_39 rfl gf_RX11_12 (fun _ _ _ _ => rfl) ⟨by decide, rfl⟩ rfl ?_
          refine sw_getR (b := 5) 45 dX11_put_42 rfl gf_RX11_127 (fun _ _ _ _ => rfl) ⟨by decide, rfl⟩ rfl ?_
          refine sw_iload_n 46 dX11_put_45 rfl rfl rfl ?_
          refine sw_aald (b := (8 + 2 * t)) (t := 0) 47 dX11_put_46 rfl ⟨by decide, rfl⟩ (by decide) (by assumption) (by first | assumption | rfl) ?_
          refine sw_getR 50 dX11_put_47 rfl gf_RX11_131 (fun _ _ _ _ => rfl) (by first | assumption | exact ⟨by decide, rfl⟩) (by first | assumption | rfl) ?_
          refine sw_astore (lc' := [(0, _), (1, _), (2, _), (3, _), (4, _)]) 52 dX11_put_50 rfl (by decide) rfl ?_
          refine sw_aload 54 dX11_put_52 rfl rfl ?_
          refine sw_iload_n 55 dX11_put_54 rfl rfl rfl ?_
          refine sw_iald 56 dX11_put_55 rfl (by first | assumption | exact ⟨by decide, rfl⟩) (by assumption) ?_
          refine sw_istore (lc' := [(0, _), (1, _), (2, _), (3, _), (4, _), (5, _)]) 58 dX11_put_56 rfl (by decide) rfl ?_
          refine sw_aload 60 dX11_put_58 rfl rfl ?_
          refine sw_iload_n 61 dX11_put_60 rfl rfl rfl ?_
          refine sw_iload_n 62 dX11_put_61 rfl rfl rfl ?_
          refine sw_iast 63 dX11_put_62 rfl (by first | assumption | exact ⟨by decide, rfl⟩) (by assumption) ?_
          refine sw_iload 65 dX11_put_63 rfl rfl ?_
          refine sw_bipush (v := zI 10) 67 dX11_put_65 rfl (by decide) ?_
          refine sw_iadd 68 dX11_put_67 rfl ?_
          exact sw_iret dX11_put_68 rfl (by
  unfold opPut; rw [if_pos ⟨c4, c18⟩, if_neg (by omega), zI_clampN (by omega), uH_of_up hU, (hV.2.2 a (by omega)).1, zI_add, hV.1]
  refine ⟨IA_setSh I ht (fun j hj => ?_), rfl⟩
  show _ = zI (va_up (σ.1.2.1.2 t) a x j)
  by_cases c : j = a
  · simp only [va_up, if_pos c]
  · simp only [va_up, if_neg c]; exact (hV.2.2 j hj).1)
        · refine sw_bipush (v := zI (-2)) 37 dX11_put_35 rfl (by decide) ?_
          exact sw_iret dX11_put_37 rfl (by
  rw [zI_le (by omega) (by omega) (by omega) (by omega)] at c32
  unfold opPut; rw [if_pos ⟨c4, c18⟩, if_pos (by omega)]; exact ⟨I, rfl⟩)
    · refine sw_iconst (v := zI (-1)) 22 dX11_put_21 rfl (by decide) ?_
      exact sw_iret dX11_put_22 rfl (by
  rw [ifz_eq] at c18
  unfold opPut; rw [if_neg (fun hh => c18 hh.2)]; exact ⟨I, rfl⟩)
theorem a_sign (K : okS σ) (I : IA h σ) {s x : Int} (s1 : -2147483648 ≤ s) (s2 : s < 2147483648) (x1 : -2147483648 ≤ x) (x2 : x < 2147483648) : sw_ct wA X l (d + 1) mX11_sign [.ref 0, .int (zI s), .int (zI x)] h (sw_qI wA X fun r h2 => IA h2 (opSign σ s x).2 ∧ r = zI (opSign σ s x).1) := by
  refine sw_ct_of (by decide +kernel) (Nat.le_of_ble_eq_true rfl) rfl ?_
  refine sw_iload_n 1 dX11_sign_0 rfl rfl rfl ?_
  refine sw_invSI 4 dX11_sign_1 rfl lk_RX11_124 (c_isShelf s1 s2) rfl rfl (Nat.le_of_ble_eq_true rfl) (fun r1 h1 hq1 => ?_)
  obtain ⟨rfl, rfl⟩ := hq1
  refine sw_if_ne 9 7 dX11_sign_4 (by decide) rfl (fun c4 => ?_) (fun c4 => ?_)
  · rw [ifz_eq, Decidable.not_not] at c4
    obtain ⟨t, rfl⟩ := Int.eq_ofNat_of_zero_le c4.1
    have ht : t < 4 := by omega
    have hin2 := zI_inN (a := t) (n := 4) ht (by decide)
    have hrf := rf_now ht
    have hU := isU_now ht
    have hU1 := hU.1
    have hV := IA_U K I ht
    refine sw_iload_n 10 dX11_sign_9 rfl rfl rfl ?_
    refine sw_iconst (v := zI 1) 11 dX11_sign_10 rfl (by decide) ?_
    refine sw_icmp_eq 22 14 dX11_sign_11 (by decide) rfl (fun c11 => ?_) (fun c11 => ?_)
    · refine sw_aload_n 23 dX11_sign_22 rfl rfl rfl ?_
      refine sw_getR (b := 1) 26 dX11_sign_23 rfl gf_RX11_12 (fun _ _ _ _ => rfl) ⟨by decide, rfl⟩ rfl ?_
      refine sw_getR (b := 5) 29 dX11_sign_26 rfl gf_RX11_127 (fun _ _ _ _ => rfl) ⟨by decide, rfl⟩ rfl ?_
      refine sw_iload_n 30 dX11_sign_29 rfl rfl rfl ?_
      refine sw_aald (b := (8 + 2 * t)) (t := 0) 31 dX11_sign_30 rfl ⟨by decide, rfl⟩ (by decide) (by assumption) (by first | assumption | rfl) ?_
      refine sw_iload_n 32 dX11_sign_31 rfl rfl rfl ?_
      refine sw_putI 35 dX11_sign_32 rfl pf_RX11_134 rfl (by first | assumption | exact ⟨by decide, rfl⟩) ?_
      refine sw_iconst (v := zI 1) 36 dX11_sign_35 rfl (by decide) ?_
      exact sw_iret dX11_sign_36 rfl (by
  rw [zI_eq (by omega) (by omega) (by omega) (by omega)] at c11
  unfold opSign; rw [if_pos c4, if_neg (by omega), uH_of_wI (pu := 9 + 2 * t)]
  exact ⟨IA_setSh I ht (fun j hj => (hV.2.2 j hj).1), rfl⟩)
    · rw [zI_eq (by omega) (by omega) (by omega) (by omega)] at c11
      refine sw_iload_n 15 dX11_sign_14 rfl rfl rfl ?_
      refine sw_iconst (v := zI (-1)) 16 dX11_sign_15 rfl (by decide) ?_
      refine sw_icmp_eq 22 19 dX11_sign_16 (by decide) rfl (fun c16 => ?_) (fun c16 => ?_)
      · refine sw_aload_n 23 dX11_sign_22 rfl rfl rfl ?_
        refine sw_getR (b := 1) 26 dX11_sign_23 rfl gf_RX11_12 (fun _ _ _ _ => rfl) ⟨by decide, rfl⟩ rfl ?_
        refine sw_getR (b := 5) 29 dX11_sign_26 rfl gf_RX11_127 (fun _ _ _ _ => rfl) ⟨by decide, rfl⟩ rfl ?_
        refine sw_iload_n 30 dX11_sign_29 rfl rfl rfl ?_
        refine sw_aald (b := (8 + 2 * t)) (t := 0) 31 dX11_sign_30 rfl ⟨by decide, rfl⟩ (by decide) (by assumption) (by first | assumption | rfl) ?_
        refine sw_iload_n 32 dX11_sign_31 rfl rfl rfl ?_
        refine sw_putI 35 dX11_sign_32 rfl pf_RX11_134 rfl (by first | assumption | exact ⟨by decide, rfl⟩) ?_
        refine sw_iconst (v := zI 1) 36 dX11_sign_35 rfl (by decide) ?_
        exact sw_iret dX11_sign_36 rfl (by
  rw [zI_eq (by omega) (by omega) (by omega) (by omega)] at c16
  unfold opSign; rw [if_pos c4, if_neg (by omega), uH_of_wI (pu := 9 + 2 * t)]
  exact ⟨IA_setSh I ht (fun j hj => (hV.2.2 j hj).1), rfl⟩)
      · rw [zI_eq (by omega) (by omega) (by omega) (by omega)] at c16
        refine sw_bipush (v := zI (-2)) 21 dX11_sign_19 rfl (by decide) ?_
        exact sw_iret dX11_sign_21 rfl (by
  unfold opSign; rw [if_pos c4, if_pos ⟨c11, c16⟩]; exact ⟨I, rfl⟩)
  · refine sw_iconst (v := zI (-1)) 8 dX11_sign_7 rfl (by decide) ?_
    exact sw_iret dX11_sign_8 rfl (by
  rw [ifz_eq] at c4
  unfold opSign; rw [if_neg c4]; exact ⟨I, rfl⟩)
theorem a_powerOf (K : okS σ) (I : IA h σ) {s i : Int} (s1 : -2147483648 ≤ s) (s2 : s < 2147483648) (i1 : -2147483648 ≤ i) (i2 : i < 2147483648) : sw_ct wA X l (d + 1) mX11_powerOf [.ref 0, .int (zI s), .int (zI i)] h (sw_qI wA X fun r h2 => IA h2 σ ∧ r = zI (opPowerOf σ s i)) := by
  have V := IA_B K I
  obtain ⟨v1, v2, v3, v4⟩ := V
  refine sw_ct_of (by decide +kernel) (Nat.le_of_ble_eq_true rfl) rfl ?_
  refine sw_iload_n 1 dX11_powerOf_0 rfl rfl rfl ?_
  refine sw_invSI 4 dX11_powerOf_1 rfl lk_RX11_124 (c_isShelf s1 s2) rfl rfl (Nat.le_of_ble_eq_true rfl) (fun r1 h1 hq1 => ?_)
  obtain ⟨rfl, rfl⟩ := hq1
  refine sw_if_eq 21 7 dX11_powerOf_4 (by decide) rfl (fun c4 => ?_) (fun c4 => ?_)
  · refine sw_iconst (v := zI (-1)) 22 dX11_powerOf_21 rfl (by decide) ?_
    exact sw_iret dX11_powerOf_22 rfl (by
  rw [ifz_eq] at c4
  unfold opPowerOf; rw [if_neg (fun hh => c4 hh.1)]; exact ⟨I, rfl⟩)
  · rw [ifz_eq, Decidable.not_not] at c4
    refine sw_aload_n 8 dX11_powerOf_7 rfl rfl rfl ?_
    refine sw_getR (b := 1) 11 dX11_powerOf_8 rfl gf_RX11_12 (fun _ _ _ _ => rfl) ⟨by decide, rfl⟩ rfl ?_
    refine sw_getR (b := 2) 14 dX11_powerOf_11 rfl gf_RX11_86 (fun _ _ _ _ => rfl) ⟨by decide, rfl⟩ rfl ?_
    refine sw_iload_n 15 dX11_powerOf_14 rfl rfl rfl ?_
    refine sw_invVI 18 dX11_powerOf_15 rfl lk_RX11_110 (c_B_has isB_now v1 (by omega) i1 i2) ⟨by decide, rfl⟩ rfl rfl (Nat.le_of_ble_eq_true rfl) (fun r15 h15 hq15 => ?_)
    obtain ⟨rfl, rfl⟩ := hq15
    refine sw_if_ne 23 21 dX11_powerOf_18 (by decide) rfl (fun c18 => ?_) (fun c18 => ?_)
    · rw [ifz_eq, Decidable.not_not] at c18
      obtain ⟨a, rfl⟩ := Int.eq_ofNat_of_zero_le c18.1
      obtain ⟨t, rfl⟩ := Int.eq_ofNat_of_zero_le c4.1
      have ht : t < 4 := by omega
      have hin := zI_inN (a := a) (n := 4) (by omega) (by decide)
      have hin2 := zI_inN (a := t) (n := 4) ht (by decide)
      have hrf := rf_now ht
      have hU := isU_now ht
      have hU1 := hU.1
      have hU2 := hU.2.1
      have hU3 := hU.2.2.1
      have hV := IA_U K I ht
      refine sw_aload_n 24 dX11_powerOf_23 rfl rfl rfl ?_
      refine sw_getR (b := 1) 27 dX11_powerOf_24 rfl gf_RX11_12 (fun _ _ _ _ => rfl) ⟨by decide, rfl⟩ rfl ?_
      refine sw_getR (b := 5) 30 dX11_powerOf_27 rfl gf_RX11_127 (fun _ _ _ _ => rfl) ⟨by decide, rfl⟩ rfl ?_
      refine sw_iload_n 31 dX11_powerOf_30 rfl rfl rfl ?_
      refine sw_aald (b := (8 + 2 * t)) (t := 0) 32 dX11_powerOf_31 rfl ⟨by decide, rfl⟩ (by decide) (by assumption) (by first | assumption | rfl) ?_
      refine sw_getR 35 dX11_powerOf_32 rfl gf_RX11_131 (fun _ _ _ _ => rfl) (by first | assumption | exact ⟨by decide, rfl⟩) (by first | assumption | rfl) ?_
      refine sw_iload_n 36 dX11_powerOf_35 rfl rfl rfl ?_
      refine sw_iald 37 dX11_powerOf_36 rfl (by first | assumption | exact ⟨by decide, rfl⟩) (by assumption) ?_
      refine sw_bipush (v := zI 10) 39 dX11_powerOf_37 rfl (by decide) ?_
      refine sw_iadd 40 dX11_powerOf_39 rfl ?_
      exact sw_iret dX11_powerOf_40 rfl (by
  unfold opPowerOf; rw [if_pos ⟨c4, c18⟩, zI_clampN (by omega), (hV.2.2 a (by omega)).1, zI_add]
  exact ⟨I, rfl⟩)
    · refine sw_iconst (v := zI (-1)) 22 dX11_powerOf_21 rfl (by decide) ?_
      exact sw_iret dX11_powerOf_22 rfl (by
  rw [ifz_eq] at c18
  unfold opPowerOf; rw [if_neg (fun hh => c18 hh.2)]; exact ⟨I, rfl⟩)
theorem a_value (K : okS σ) (I : IA h σ) {s x : Int} (s1 : -2147483648 ≤ s) (s2 : s < 2147483648) (x1 : -2147483648 ≤ x) (x2 : x < 2147483648) : sw_ct wA X l (d + 2) mX11_value [.ref 0, .int (zI s), .int (zI x)] h (sw_qL wA X fun r h2 => IA h2 σ ∧ r = zL (opValue σ s x)) := by
  have V := IA_B K I
  have hn := V.2.1
  refine sw_ct_of (by decide +kernel) (Nat.le_of_ble_eq_true rfl) rfl ?_
  refine sw_iload_n 1 dX11_value_0 rfl rfl rfl ?_
  refine sw_invSI 4 dX11_value_1 rfl lk_RX11_124 (c_isShelf s1 s2) rfl rfl (Nat.le_of_ble_eq_true rfl) (fun r1 h1 hq1 => ?_)
  obtain ⟨rfl, rfl⟩ := hq1
  refine sw_if_eq 14 7 dX11_value_4 (by decide) rfl (fun c4 => ?_) (fun c4 => ?_)
  · refine sw_ldc2 17 dX11_value_14 rfl (show Cond.constantLong RX11 140 (zL (-9223372036854775808)) ∈ sw_big from kk_RX11_140) ?_
    exact sw_lret dX11_value_17 rfl (by
  rw [ifz_eq] at c4
  unfold opValue; rw [if_neg (fun hh => c4 hh.1)]; exact ⟨I, rfl⟩)
  · rw [ifz_eq, Decidable.not_not] at c4
    refine sw_iload_n 8 dX11_value_7 rfl rfl rfl ?_
    refine sw_invSI 11 dX11_value_8 rfl lk_RX11_137 (c_isPart x1 x2) rfl rfl (Nat.le_of_ble_eq_true rfl) (fun r8 h8 hq8 => ?_)
    obtain ⟨rfl, rfl⟩ := hq8
    refine sw_if_ne 18 14 dX11_value_11 (by decide) rfl (fun c11 => ?_) (fun c11 => ?_)
    · rw [ifz_eq, Decidable.not_not] at c11
      obtain ⟨t, rfl⟩ := Int.eq_ofNat_of_zero_le c4.1
      have ht : t < 4 := by omega
      have hin2 := zI_inN (a := t) (n := 4) ht (by decide)
      have hrf := rf_now ht
      have hU := isU_now ht
      have hU1 := hU.1
      have hV := IA_U K I ht
      refine sw_aload_n 19 dX11_value_18 rfl rfl rfl ?_
      refine sw_getR (b := 1) 22 dX11_value_19 rfl gf_RX11_12 (fun _ _ _ _ => rfl) ⟨by decide, rfl⟩ rfl ?_
      refine sw_getR (b := 5) 25 dX11_value_22 rfl gf_RX11_127 (fun _ _ _ _ => rfl) ⟨by decide, rfl⟩ rfl ?_
      refine sw_iload_n 26 dX11_value_25 rfl rfl rfl ?_
      refine sw_aald (b := (8 + 2 * t)) (t := 0) 27 dX11_value_26 rfl ⟨by decide, rfl⟩ (by decide) (by assumption) (by first | assumption | rfl) ?_
      refine sw_astore_n (lc' := [(0, _), (1, _), (2, _), (3, _)]) 28 dX11_value_27 rfl rfl (by decide) rfl ?_
      refine sw_iload_n 29 dX11_value_28 rfl rfl rfl ?_
      refine sw_if_ne 46 32 dX11_value_29 (by decide) rfl (fun c29 => ?_) (fun c29 => ?_)
      · rw [z0, zI_eq (by omega) (by omega) (by omega) (by omega)] at c29
        refine sw_aload_n 47 dX11_value_46 rfl rfl rfl ?_
        refine sw_aload_n 48 dX11_value_47 rfl rfl rfl ?_
        refine sw_getR (b := 1) 51 dX11_value_48 rfl gf_RX11_12 (fun _ _ _ _ => rfl) ⟨by decide, rfl⟩ rfl ?_
        refine sw_getR (b := 2) 54 dX11_value_51 rfl gf_RX11_86 (fun _ _ _ _ => rfl) ⟨by decide, rfl⟩ rfl ?_
        refine sw_invVL 57 dX11_value_54 rfl lk_RX11_146 (c_U_below (e := σ.1.2.1.2 t) hU isB_now V (fun i hi => ⟨(hV.2.2 i (by omega)).1, by have := (hV.2.2 i (by omega)).2; omega⟩)) (by first | assumption | exact ⟨by decide, rfl⟩) rfl rfl (Nat.le_of_ble_eq_true rfl) (fun r54 h54 hq54 => ?_)
        obtain ⟨rfl, rfl⟩ := hq54
        exact sw_lret dX11_value_57 rfl (by unfold opValue; rw [if_pos ⟨c4, c11⟩, if_neg c29]; exact ⟨I, rfl⟩)
      · rw [z0, zI_eq (by omega) (by omega) (by omega) (by omega)] at c29
        refine sw_aload_n 33 dX11_value_32 rfl rfl rfl ?_
        refine sw_aload_n 34 dX11_value_33 rfl rfl rfl ?_
        refine sw_getR (b := 1) 37 dX11_value_34 rfl gf_RX11_12 (fun _ _ _ _ => rfl) ⟨by decide, rfl⟩ rfl ?_
        refine sw_getR (b := 2) 40 dX11_value_37 rfl gf_RX11_86 (fun _ _ _ _ => rfl) ⟨by decide, rfl⟩ rfl ?_
        refine sw_invVL 43 dX11_value_40 rfl lk_RX11_142 (c_U_above (e := σ.1.2.1.2 t) hU isB_now V (fun i hi => ⟨(hV.2.2 i (by omega)).1, by have := (hV.2.2 i (by omega)).2; omega⟩) hV.1 hV.2.1) (by first | assumption | exact ⟨by decide, rfl⟩) rfl rfl (Nat.le_of_ble_eq_true rfl) (fun r40 h40 hq40 => ?_)
        obtain ⟨rfl, rfl⟩ := hq40
        refine sw_goto 57 dX11_value_43 (by decide) ?_
        exact sw_lret dX11_value_57 rfl (by unfold opValue; rw [if_pos ⟨c4, c11⟩, if_pos c29]; exact ⟨I, rfl⟩)
    · refine sw_ldc2 17 dX11_value_14 rfl (show Cond.constantLong RX11 140 (zL (-9223372036854775808)) ∈ sw_big from kk_RX11_140) ?_
      exact sw_lret dX11_value_17 rfl (by
  rw [ifz_eq] at c11
  unfold opValue; rw [if_neg (fun hh => c11 hh.2)]; exact ⟨I, rfl⟩)
theorem a_height (K : okS σ) (I : IA h σ) {s : Int} (s1 : -2147483648 ≤ s) (s2 : s < 2147483648) : sw_ct wA X l (d + 2) mX11_height [.ref 0, .int (zI s)] h (sw_qI wA X fun r h2 => IA h2 σ ∧ r = zI (opHeight σ s)) := by
  refine sw_ct_of (by decide +kernel) (Nat.le_of_ble_eq_true rfl) rfl ?_
  refine sw_iload_n 1 dX11_height_0 rfl rfl rfl ?_
  refine sw_invSI 4 dX11_height_1 rfl lk_RX11_124 (c_isShelf s1 s2) rfl rfl (Nat.le_of_ble_eq_true rfl) (fun r1 h1 hq1 => ?_)
  obtain ⟨rfl, rfl⟩ := hq1
  refine sw_if_eq 22 7 dX11_height_4 (by decide) rfl (fun c4 => ?_) (fun c4 => ?_)
  · refine sw_iconst (v := zI (-1)) 23 dX11_height_22 rfl (by decide) ?_
    exact sw_iret dX11_height_23 rfl (by
  rw [ifz_eq] at c4
  unfold opHeight; rw [if_neg c4]; exact ⟨I, rfl⟩)
  · rw [ifz_eq, Decidable.not_not] at c4
    obtain ⟨t, rfl⟩ := Int.eq_ofNat_of_zero_le c4.1
    have ht : t < 4 := by omega
    have hin2 := zI_inN (a := t) (n := 4) ht (by decide)
    have hrf := rf_now ht
    have hU := isU_now ht
    have hU1 := hU.1
    have hV := IA_U K I ht
    refine sw_aload_n 8 dX11_height_7 rfl rfl rfl ?_
    refine sw_getR (b := 1) 11 dX11_height_8 rfl gf_RX11_12 (fun _ _ _ _ => rfl) ⟨by decide, rfl⟩ rfl ?_
    refine sw_getR (b := 5) 14 dX11_height_11 rfl gf_RX11_127 (fun _ _ _ _ => rfl) ⟨by decide, rfl⟩ rfl ?_
    refine sw_iload_n 15 dX11_height_14 rfl rfl rfl ?_
    refine sw_aald (b := (8 + 2 * t)) (t := 0) 16 dX11_height_15 rfl ⟨by decide, rfl⟩ (by decide) (by assumption) (by first | assumption | rfl) ?_
    refine sw_invVI 19 dX11_height_16 rfl lk_RX11_149 (c_U_greatestPower (e := σ.1.2.1.2 t) hU (fun i hi => ⟨(hV.2.2 i hi).1, by have := (hV.2.2 i hi).2; omega⟩)) (by first | assumption | exact ⟨by decide, rfl⟩) rfl rfl (Nat.le_of_ble_eq_true rfl) (fun r16 h16 hq16 => ?_)
    obtain ⟨rfl, rfl⟩ := hq16
    refine sw_goto 23 dX11_height_19 (by decide) ?_
    exact sw_iret dX11_height_23 rfl (by unfold opHeight; rw [if_pos c4]; exact ⟨I, rfl⟩)
theorem a_isIn (K : okS σ) (I : IA h σ) {s : Int} (s1 : -2147483648 ≤ s) (s2 : s < 2147483648) : sw_ct wA X l (d + 2) mX11_isIn [.ref 0, .int (zI s)] h (sw_qI wA X fun r h2 => IA h2 σ ∧ r = zI (opIsIn σ s)) := by
  have V := IA_B K I
  have hn := V.2.1
  refine sw_ct_of (by decide +kernel) (Nat.le_of_ble_eq_true rfl) rfl ?_
  refine sw_iload_n 1 dX11_isIn_0 rfl rfl rfl ?_
  refine sw_invSI 4 dX11_isIn_1 rfl lk_RX11_124 (c_isShelf s1 s2) rfl rfl (Nat.le_of_ble_eq_true rfl) (fun r1 h1 hq1 => ?_)
  obtain ⟨rfl, rfl⟩ := hq1
  refine sw_if_ne 9 7 dX11_isIn_4 (by decide) rfl (fun c4 => ?_) (fun c4 => ?_)
  · rw [ifz_eq, Decidable.not_not] at c4
    obtain ⟨t, rfl⟩ := Int.eq_ofNat_of_zero_le c4.1
    have ht : t < 4 := by omega
    have hin2 := zI_inN (a := t) (n := 4) ht (by decide)
    have hrf := rf_now ht
    have hU := isU_now ht
    have hU1 := hU.1
    have hV := IA_U K I ht
    refine sw_aload_n 10 dX11_isIn_9 rfl rfl rfl ?_
    refine sw_getR (b := 1) 13 dX11_isIn_10 rfl gf_RX11_12 (fun _ _ _ _ => rfl) ⟨by decide, rfl⟩ rfl ?_
    refine sw_getR (b := 5) 16 dX11_isIn_13 rfl gf_RX11_127 (fun _ _ _ _ => rfl) ⟨by decide, rfl⟩ rfl ?_
    refine sw_iload_n 17 dX11_isIn_16 rfl rfl rfl ?_
    refine sw_aald (b := (8 + 2 * t)) (t := 0) 18 dX11_isIn_17 rfl ⟨by decide, rfl⟩ (by decide) (by assumption) (by first | assumption | rfl) ?_
    refine sw_aload_n 19 dX11_isIn_18 rfl rfl rfl ?_
    refine sw_getR (b := 1) 22 dX11_isIn_19 rfl gf_RX11_12 (fun _ _ _ _ => rfl) ⟨by decide, rfl⟩ rfl ?_
    refine sw_getR (b := 2) 25 dX11_isIn_22 rfl gf_RX11_86 (fun _ _ _ _ => rfl) ⟨by decide, rfl⟩ rfl ?_
    refine sw_invVI 28 dX11_isIn_25 rfl lk_RX11_152 (c_U_isWithin (e := σ.1.2.1.2 t) hU isB_now V (fun i hi => ⟨(hV.2.2 i (by omega)).1, by have := (hV.2.2 i (by omega)).2; omega⟩)) (by first | assumption | exact ⟨by decide, rfl⟩) rfl rfl (Nat.le_of_ble_eq_true rfl) (fun r25 h25 hq25 => ?_)
    obtain ⟨rfl, rfl⟩ := hq25
    refine sw_if_eq 35 31 dX11_isIn_28 (by decide) rfl (fun c28 => ?_) (fun c28 => ?_)
    · refine sw_iconst (v := zI 0) 36 dX11_isIn_35 rfl (by decide) ?_
      exact sw_iret dX11_isIn_36 rfl (by
  rw [ifz_eq] at c28
  unfold opIsIn; rw [if_pos c4]; refine ⟨I, ?_⟩
  show zI 0 = zI (if inBoxZ (σ.1.2.1.2 t) σ.1.1.2.2 σ.1.1.1 0 = true then 1 else 0)
  rw [if_neg c28])
    · refine sw_iconst (v := zI 1) 32 dX11_isIn_31 rfl (by decide) ?_
      refine sw_goto 36 dX11_isIn_32 (by decide) ?_
      exact sw_iret dX11_isIn_36 rfl (by
  rw [ifz_eq, Decidable.not_not] at c28
  unfold opIsIn; rw [if_pos c4]; refine ⟨I, ?_⟩
  show zI 1 = zI (if inBoxZ (σ.1.2.1.2 t) σ.1.1.2.2 σ.1.1.1 0 = true then 1 else 0)
  rw [if_pos c28])
  · refine sw_iconst (v := zI (-1)) 8 dX11_isIn_7 rfl (by decide) ?_
    exact sw_iret dX11_isIn_8 rfl (by
  rw [ifz_eq] at c4
  unfold opIsIn; rw [if_neg c4]; exact ⟨I, rfl⟩)
end sw_ops2
