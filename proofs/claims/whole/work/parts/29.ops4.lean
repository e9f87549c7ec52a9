/-! THE CLASS'S CALLS, 4: answers, groups -/
abbrev tabS (σ : SgZ) : TbZ := ansT σ.1.1.1 σ.1.1.2.1 σ.1.1.2.2
abbrev gcS (σ : SgZ) : Nat := (fillT σ.1.1.1 σ.1.1.2.1 σ.1.1.2.2).2
theorem capZ_pow (p : Nat → Int) : ∀ f i, capZ p f i * prodZ p i ^ 4 = prodZ p (i + f) ^ 4
  | 0, i => by show 1 * prodZ p i ^ 4 = prodZ p i ^ 4; rw [Int.one_mul]
  | f + 1, i => by
    have ih := capZ_pow p f (i + 1)
    rw [show i + 1 + f = i + (f + 1) by omega] at ih
    rw [← ih]
    show p i ^ 4 * capZ p f (i + 1) * prodZ p i ^ 4 = capZ p f (i + 1) * (prodZ p i * p i) ^ 4
    rw [Int.mul_pow, Int.mul_comm (prodZ p i ^ 4), ← Int.mul_assoc, Int.mul_comm (p i ^ 4)]
theorem capZ_le {p : Nat → Int} {n : Nat} (hp : ∀ i, i < n → 0 < p i) (h1 : prodZ p n ≤ 1000) : capZ p n 0 ≤ 1000000000000 := by
  have e := capZ_pow p n 0
  rw [show prodZ p 0 = 1 from rfl, Nat.zero_add, show (1 : Int) ^ 4 = 1 from rfl, Int.mul_one] at e
  rw [e]
  exact pow_le_l (Int.le_of_lt (prodZ_pos n hp)) h1 4
theorem IA_known {h h1 : sw_H} {σ : SgZ} (I : IA h σ) (A : agB 31 37 h h1) (t1 : tblA h1 (tabS σ)) (t2 : srtZ (tabS σ)) (t3 : h1.1 31 6 = zI (gcS σ)) (t4 : gcS σ ≤ 44) : IA (sw_wI h1 0 12 (zI 1)) σ ∧ tblA (sw_wI h1 0 12 (zI 1)) (tabS σ) ∧ (sw_wI h1 0 12 (zI 1)).1 31 6 = zI (gcS σ) := by
  obtain ⟨i1, i2, i3, i4, i5, i6, i7⟩ := I
  have B : ∀ a, 0 < a → a < 31 ∨ 37 ≤ a → (sw_wI h1 0 12 (zI 1)).1 a = h.1 a ∧ (sw_wI h1 0 12 (zI 1)).2 a = h.2 a := fun a h1 h2 => ⟨by rw [sw_wI_ne (by omega), (A a h2).1], (A a h2).2⟩
  have B2 : ∀ a, 0 < a → (sw_wI h1 0 12 (zI 1)).1 a = h1.1 a ∧ (sw_wI h1 0 12 (zI 1)).2 a = h1.2 a := fun a h1 => ⟨sw_wI_ne (by omega), rfl⟩
  have Z : ∀ k, k ≠ 12 → (sw_wI h1 0 12 (zI 1)).1 0 k = h.1 0 k := fun k hk => by rw [sw_wI_at]; simp only [va_up, if_neg hk]; rw [(A 0 (by omega)).1]
  have T1 := tblA_ag t1 (fun a h1 _ => B2 a (by omega))
  have T3 : (sw_wI h1 0 12 (zI 1)).1 31 6 = zI (gcS σ) := by rw [(B2 31 (by omega)).1]; exact t3
  refine ⟨⟨dkA_ag i1 (fun a h1 h2 => (B a (by omega) (by omega)).1), iaM_ag i2 (Z 11 (by decide)) (fun a h1 h2 => (B a (by omega) (by omega)).1), Or.inr ⟨by rw [sw_wI_at]; simp [va_up], T1, t2, T3, t4⟩, iaL_ag i4 (Z 13 (by decide)) (Z 14 (by decide)), iaT_ag i5 (fun a h1 h2 => (B a (by omega) (by omega)).1), iaS_ag i6 (fun a h1 h2 => B a (by omega) (by omega)), iaF_ag i7 (fun a h1 => (B a (by omega) (by omega)).1)⟩, T1, T3⟩
theorem newG_b (G : Nat → Int) (N i : Nat) : -1 ≤ newG G N i ∧ newG G N i ≤ i := by
  have := newR_b G (i + 1) (G i).toNat
  unfold newG; omega
theorem tabG_b {σ : SgZ} (hN : (tabS σ).1 ≤ 264) : ∀ i, i < (tabS σ).1 → -1 ≤ (tabS σ).2.2.2 i ∧ (tabS σ).2.2.2 i ≤ 300 := by
  intro i hi
  have := newG_b (fillT σ.1.1.1 σ.1.1.2.1 σ.1.1.2.2).1.2.2.2 (fillT σ.1.1.1 σ.1.1.2.1 σ.1.1.2.2).1.1 i
  show -1 ≤ newG (fillT σ.1.1.1 σ.1.1.2.1 σ.1.1.2.2).1.2.2.2 (fillT σ.1.1.1 σ.1.1.2.1 σ.1.1.2.2).1.1 i ∧ newG (fillT σ.1.1.1 σ.1.1.2.1 σ.1.1.2.2).1.2.2.2 (fillT σ.1.1.1 σ.1.1.2.1 σ.1.1.2.2).1.1 i ≤ 300
  omega
/-- the number of a fraction among the answers, or -1 -/
def whT (T : TbZ) (a b : Int) : Int := if plT T a b T.1 < T.1 ∧ T.2.1 (plT T a b T.1) = a ∧ T.2.2.1 (plT T a b T.1) = b then plT T a b T.1 else -1
def opAnswer (T : TbZ) (i x : Int) : Int := if x = 0 ∨ x = 1 then (if 0 ≤ i ∧ i < T.1 then (if x = 0 then T.2.1 i.toNat else T.2.2.1 i.toNat) else vOID) else vOID
def opTake (T : TbZ) (σ : SgZ) (i s : Int) : RgZ :=
  if (0 ≤ i ∧ i < T.1) ∧ (0 ≤ s ∧ s < 4) then (if frOK σ.1.1.1 σ.1.1.2.1 (T.2.1 i.toNat) (T.2.2.1 i.toNat) = true then (1, setSh σ s.toNat (frS (T.2.1 i.toNat)) (frU σ.1.1.1 σ.1.1.2.1 (T.2.1 i.toNat) (T.2.2.1 i.toNat))) else (-1, σ)) else (-1, σ)
def opWhich (T : TbZ) (σ : SgZ) (s : Int) : Int := if 0 ≤ s ∧ s < 4 then (if whT T (shA0 σ s.toNat) (shB0 σ s.toNat) < 0 then -5 else whT T (shA0 σ s.toNat) (shB0 σ s.toNat)) else -1
def opGroupOf (T : TbZ) (i : Int) : Int := if 0 ≤ i ∧ i < T.1 then T.2.2.2 i.toNat else -1
def hgtT (T : TbZ) (n : Nat) (p : Nat → Int) (g : Int) : Nat → Int
  | 0 => 0
  | i + 1 => if T.2.2.2 i = g ∧ frOK n p (T.2.1 i) (T.2.2.1 i) = true then max (hgtT T n p g i) (topZ (frU n p (T.2.1 i) (T.2.2.1 i)) 4) else hgtT T n p g i
theorem hgtT_b (T : TbZ) (n : Nat) (p : Nat → Int) (g : Int) : ∀ i, 0 ≤ hgtT T n p g i ∧ hgtT T n p g i ≤ 6
  | 0 => by unfold hgtT; omega
  | i + 1 => by
    have h1 := hgtT_b T n p g i
    unfold hgtT
    split
    · have := topZ_b (e := frU n p (T.2.1 i) (T.2.2.1 i)) (B := 6) 4 (fun j _ => by have := frU_b n p (T.2.1 i) (T.2.2.1 i) j; omega)
      omega
    · exact h1
def opGroup (T : TbZ) (gc : Nat) (σ : SgZ) (g x : Int) : Int :=
  if 0 ≤ g ∧ g < gc then (if x = 0 then cntG T.2.2.2 g T.1 else if x = 1 then fndZ T.2.2.2 g T.1 0 else if x = 2 then hgtT T σ.1.1.1 σ.1.1.2.1 g T.1 else -1) else -1
section sw_ops4
variable {X : sw_X} {l : Launch} {d : Nat} {h : sw_H} {σ : SgZ}
theorem a_known (K : okS σ) (I : IA h σ) : sw_ct wA X l (d + 9) mX11_known [.ref 0] h (sw_qR wA X fun r h2 => r = 31 ∧ IA h2 σ ∧ tblA h2 (tabS σ) ∧ srtZ (tabS σ) ∧ h2.1 31 6 = zI (gcS σ) ∧ gcS σ ≤ 44) := by
  have V := IA_B K I
  have hn := V.2.1
  have hc := capZ_le (n := σ.1.1.1) (p := σ.1.1.2.1) (fun i hi => by have := (V.2.2.1 i hi).2.1; omega) K.1.1.2.2.2.1
  have cf := c_A_fill (X := X) (l := l) (d := d + (4 - σ.1.1.1)) V hc
  rw [show d + (4 - σ.1.1.1) + σ.1.1.1 + 4 = d + 8 by omega] at cf
  refine sw_ct_of (by decide +kernel) (Nat.le_of_ble_eq_true rfl) rfl ?_
  refine sw_aload_n 1 dX11_known_0 rfl rfl rfl ?_
  refine sw_getZ 4 dX11_known_1 rfl gf_RX11_339 rfl ⟨by decide, rfl⟩ ?_
  refine sw_if_ne 26 7 dX11_known_4 (by decide) rfl (fun c4 => ?_) (fun c4 => ?_)
  · refine sw_aload_n 27 dX11_known_26 rfl rfl rfl ?_
    refine sw_getR (b := 31) 30 dX11_known_27 rfl gf_RX11_24 (fun _ _ _ _ => rfl) ⟨by decide, rfl⟩ rfl ?_
    exact sw_aret dX11_known_30 rfl (by
  rcases I.2.2.1 with z | ⟨z1, z2, z3, z4, z5⟩
  · exact absurd z c4
  · exact ⟨rfl, I, z2, z3, z4, z5⟩)
  · refine sw_aload_n 8 dX11_known_7 rfl rfl rfl ?_
    refine sw_getR (b := 31) 11 dX11_known_8 rfl gf_RX11_24 (fun _ _ _ _ => rfl) ⟨by decide, rfl⟩ rfl ?_
    refine sw_aload_n 12 dX11_known_11 rfl rfl rfl ?_
    refine sw_getR (b := 1) 15 dX11_known_12 rfl gf_RX11_12 (fun _ _ _ _ => rfl) ⟨by decide, rfl⟩ rfl ?_
    refine sw_getR (b := 2) 18 dX11_known_15 rfl gf_RX11_86 (fun _ _ _ _ => rfl) ⟨by decide, rfl⟩ rfl ?_
    refine sw_invVV 21 dX11_known_18 rfl lk_RX11_342 (cf) ⟨by decide, rfl⟩ rfl rfl (Nat.le_of_ble_eq_true rfl) (fun h18 hq18 => ?_)
    obtain ⟨t1, t2, t3, t4, A⟩ := hq18
    obtain ⟨j1, j2, j3⟩ := IA_known I A t1 t2 t3 t4
    refine sw_aload_n 22 dX11_known_21 rfl rfl rfl ?_
    refine sw_iconst (v := zI 1) 23 dX11_known_22 rfl (by decide) ?_
    refine sw_putZ 26 (by first | exact Or.inl rfl | exact Or.inr rfl | assumption) dX11_known_23 rfl pf_RX11_339 rfl ⟨by decide, rfl⟩ ?_
    refine sw_aload_n 27 dX11_known_26 rfl rfl rfl ?_
    refine sw_getR (b := 31) 30 dX11_known_27 rfl gf_RX11_24 (fun _ _ _ _ => rfl) ⟨by decide, rfl⟩ rfl ?_
    exact sw_aret dX11_known_30 rfl (⟨rfl, j1, j2, t2, j3, t4⟩)
theorem a_answers (K : okS σ) (I : IA h σ) : sw_ct wA X l (d + 10) mX11_answers [.ref 0] h (sw_qI wA X fun r h2 => IA h2 σ ∧ r = zI (tabS σ).1) := by
  refine sw_ct_of (by decide +kernel) (Nat.le_of_ble_eq_true rfl) rfl ?_
  refine sw_aload_n 1 dX11_answers_0 rfl rfl rfl ?_
  refine sw_invVR 4 dX11_answers_1 rfl lk_RX11_182 (a_known K I) ⟨by decide, rfl⟩ rfl rfl (Nat.le_of_ble_eq_true rfl) (fun r1 h1 hq1 => ?_)
  obtain ⟨rfl, I2, t1, t2, t3, t4⟩ := hq1
  refine sw_getI 7 dX11_answers_4 rfl gf_RX11_186 rfl ⟨by decide, rfl⟩ ?_
  exact sw_iret dX11_answers_7 rfl (⟨I2, t1.1⟩)
theorem a_groups (K : okS σ) (I : IA h σ) : sw_ct wA X l (d + 10) mX11_groups [.ref 0] h (sw_qI wA X fun r h2 => IA h2 σ ∧ r = zI (gcS σ)) := by
  refine sw_ct_of (by decide +kernel) (Nat.le_of_ble_eq_true rfl) rfl ?_
  refine sw_aload_n 1 dX11_groups_0 rfl rfl rfl ?_
  refine sw_invVR 4 dX11_groups_1 rfl lk_RX11_182 (a_known K I) ⟨by decide, rfl⟩ rfl rfl (Nat.le_of_ble_eq_true rfl) (fun r1 h1 hq1 => ?_)
  obtain ⟨rfl, I2, t1, t2, t3, t4⟩ := hq1
  refine sw_getI 7 dX11_groups_4 rfl gf_RX11_201 rfl ⟨by decide, rfl⟩ ?_
  exact sw_iret dX11_groups_7 rfl (⟨I2, t3⟩)
theorem a_answer (K : okS σ) (I : IA h σ) {i x : Int} (i1 : -2147483648 ≤ i) (i2 : i < 2147483648) (x1 : -2147483648 ≤ x) (x2 : x < 2147483648) : sw_ct wA X l (d + 10) mX11_answer [.ref 0, .int (zI i), .int (zI x)] h (sw_qL wA X fun r h2 => IA h2 σ ∧ r = zL (opAnswer (tabS σ) i x)) := by
  refine sw_ct_of (by decide +kernel) (Nat.le_of_ble_eq_true rfl) rfl ?_
  refine sw_iload_n 1 dX11_answer_0 rfl rfl rfl ?_
  refine sw_invSI 4 dX11_answer_1 rfl lk_RX11_137 (c_isPart x1 x2) rfl rfl (Nat.le_of_ble_eq_true rfl) (fun r1 h1 hq1 => ?_)
  obtain ⟨rfl, rfl⟩ := hq1
  refine sw_if_eq 19 7 dX11_answer_4 (by decide) rfl (fun c4 => ?_) (fun c4 => ?_)
  · refine sw_ldc2 22 dX11_answer_19 rfl (show Cond.constantLong RX11 140 (zL (-9223372036854775808)) ∈ sw_big from kk_RX11_140) ?_
    exact sw_lret dX11_answer_22 rfl (by
  rw [ifz_eq] at c4
  unfold opAnswer; rw [if_neg c4]; exact ⟨I, rfl⟩)
  · rw [ifz_eq, Decidable.not_not] at c4
    refine sw_aload_n 8 dX11_answer_7 rfl rfl rfl ?_
    refine sw_invVR 11 dX11_answer_8 rfl lk_RX11_182 (a_known K I) ⟨by decide, rfl⟩ rfl rfl (Nat.le_of_ble_eq_true rfl) (fun r8 h8 hq8 => ?_)
    obtain ⟨rfl, I2, t1, t2, t3, t4⟩ := hq8
    refine sw_iload_n 12 dX11_answer_11 rfl rfl rfl ?_
    refine sw_iload_n 13 dX11_answer_12 rfl rfl rfl ?_
    refine sw_invVL 16 dX11_answer_13 rfl lk_RX11_187 (c_A_told t1 i1 i2 c4) ⟨by decide, rfl⟩ rfl rfl (Nat.le_of_ble_eq_true rfl) (fun r13 h13 hq13 => ?_)
    obtain ⟨rfl, rfl⟩ := hq13
    refine sw_goto 22 dX11_answer_16 (by decide) ?_
    exact sw_lret dX11_answer_22 rfl (⟨I2, by unfold opAnswer; rw [if_pos c4]⟩)
theorem a_take (K : okS σ) (I : IA h σ) {i s : Int} (i1 : -2147483648 ≤ i) (i2 : i < 2147483648) (s1 : -2147483648 ≤ s) (s2 : s < 2147483648) : sw_ct wA X l (d + 10) mX11_take [.ref 0, .int (zI i), .int (zI s)] h (sw_qI wA X fun r h2 => IA h2 (opTake (tabS σ) σ i s).2 ∧ r = zI (opTake (tabS σ) σ i s).1) := by
  refine sw_ct_of (by decide +kernel) (Nat.le_of_ble_eq_true rfl) rfl ?_
  refine sw_aload_n 1 dX11_take_0 rfl rfl rfl ?_
  refine sw_invVR 4 dX11_take_1 rfl lk_RX11_182 (a_known K I) ⟨by decide, rfl⟩ rfl rfl (Nat.le_of_ble_eq_true rfl) (fun r1 h1 hq1 => ?_)
  obtain ⟨rfl, I2, t1, t2, t3, t4⟩ := hq1
  refine sw_astore_n (lc' := [(0, _), (1, _), (2, _), (3, _)]) 5 dX11_take_4 rfl rfl (by decide) rfl ?_
  refine sw_aload_n 6 dX11_take_5 rfl rfl rfl ?_
  refine sw_iload_n 7 dX11_take_6 rfl rfl rfl ?_
  refine sw_invVI 10 dX11_take_7 rfl lk_RX11_191 (c_A_has t1 i1 i2) ⟨by decide, rfl⟩ rfl rfl (Nat.le_of_ble_eq_true rfl) (fun r7 h7 hq7 => ?_)
  obtain ⟨rfl, rfl⟩ := hq7
  refine sw_if_eq 20 13 dX11_take_10 (by decide) rfl (fun c10 => ?_) (fun c10 => ?_)
  · refine sw_iconst (v := zI (-1)) 21 dX11_take_20 rfl (by decide) ?_
    exact sw_iret dX11_take_21 rfl (by
  rw [ifz_eq] at c10
  unfold opTake; rw [if_neg (fun hh => c10 hh.1)]; exact ⟨I2, rfl⟩)
  · rw [ifz_eq, Decidable.not_not] at c10
    refine sw_iload_n 14 dX11_take_13 rfl rfl rfl ?_
    refine sw_invSI 17 dX11_take_14 rfl lk_RX11_124 (c_isShelf s1 s2) rfl rfl (Nat.le_of_ble_eq_true rfl) (fun r14 h14 hq14 => ?_)
    obtain ⟨rfl, rfl⟩ := hq14
    refine sw_if_ne 22 20 dX11_take_17 (by decide) rfl (fun c17 => ?_) (fun c17 => ?_)
    · rw [ifz_eq, Decidable.not_not] at c17
      obtain ⟨a, rfl⟩ := Int.eq_ofNat_of_zero_le c17.1
      obtain ⟨m, rfl⟩ := Int.eq_ofNat_of_zero_le c10.1
      have ha : a < 4 := by omega
      have hN := t1.2.1.1
      have hm : m < (tabS σ).1 := by omega
      have hin1 := zI_inN (a := a) (n := 4) ha (by decide)
      have hin2 := zI_inN (a := m) (n := 264) (by omega) (by decide)
      have hrf1 := rf_now ha
      have hU1 := (isU_now ha).1
      have tm := t1.2.2 m hm
      have to := t1.2.1.2 m hm
      refine sw_aload_n 23 dX11_take_22 rfl rfl rfl ?_
      refine sw_getR (b := 60) 26 dX11_take_23 rfl gf_RX11_45 (fun _ _ _ _ => rfl) ⟨by decide, rfl⟩ rfl ?_
      refine sw_aload_n 27 dX11_take_26 rfl rfl rfl ?_
      refine sw_getR (b := 1) 30 dX11_take_27 rfl gf_RX11_12 (fun _ _ _ _ => rfl) ⟨by decide, rfl⟩ rfl ?_
      refine sw_getR (b := 2) 33 dX11_take_30 rfl gf_RX11_86 (fun _ _ _ _ => rfl) ⟨by decide, rfl⟩ rfl ?_
      refine sw_aload_n 34 dX11_take_33 rfl rfl rfl ?_
      refine sw_getR (b := 32) 37 dX11_take_34 rfl gf_RX11_192 (fun _ _ _ _ => rfl) ⟨by decide, rfl⟩ rfl ?_
      refine sw_iload_n 38 dX11_take_37 rfl rfl rfl ?_
      refine sw_lald 39 dX11_take_38 rfl ⟨by decide, rfl⟩ (by assumption) ?_
      refine sw_aload_n 40 dX11_take_39 rfl rfl rfl ?_
      refine sw_getR (b := 33) 43 dX11_take_40 rfl gf_RX11_195 (fun _ _ _ _ => rfl) ⟨by decide, rfl⟩ rfl ?_
      refine sw_iload_n 44 dX11_take_43 rfl rfl rfl ?_
      refine sw_lald 45 dX11_take_44 rfl ⟨by decide, rfl⟩ (by assumption) ?_
      rw [zI_clampN (by omega), tm.1, tm.2.1]
      refine sw_invVI 48 dX11_take_45 rfl lk_RX11_175 (c_frac (IA_B K I2) (by omega) (by omega) (by omega) (by omega)) ⟨by decide, rfl⟩ rfl rfl (Nat.le_of_ble_eq_true rfl) (fun r45 h45 hq45 => ?_)
      obtain ⟨q1, q2, rfl, q4⟩ := hq45
      have I3 := IA_work I2 q1 q2
      refine sw_if_ne 53 51 dX11_take_48 (by decide) rfl (fun c48 => ?_) (fun c48 => ?_)
      · rw [bIz_eq, Bool.not_eq_false] at c48
        refine sw_aload_n 54 dX11_take_53 rfl rfl rfl ?_
        refine sw_getR (b := 1) 57 dX11_take_54 rfl gf_RX11_12 (fun _ _ _ _ => rfl) ⟨by decide, rfl⟩ rfl ?_
        refine sw_getR (b := 5) 60 dX11_take_57 rfl gf_RX11_127 (fun _ _ _ _ => rfl) ⟨by decide, rfl⟩ rfl ?_
        refine sw_iload_n 61 dX11_take_60 rfl rfl rfl ?_
        refine sw_aald (b := (8 + 2 * a)) (t := 0) 62 dX11_take_61 rfl ⟨by decide, rfl⟩ (by decide) (by assumption) (by first | assumption | rfl) ?_
        refine sw_aload_n 63 dX11_take_62 rfl rfl rfl ?_
        refine sw_getR (b := 60) 66 dX11_take_63 rfl gf_RX11_45 (fun _ _ _ _ => rfl) ⟨by decide, rfl⟩ rfl ?_
        refine sw_invVV 69 dX11_take_66 rfl lk_RX11_164 (c_U_copy (isU_now ha) isU_work (by omega)) (by first | assumption | exact ⟨by decide, rfl⟩) rfl rfl (Nat.le_of_ble_eq_true rfl) (fun h66 hq66 => ?_)
        subst hq66
        refine sw_iconst (v := zI 1) 70 dX11_take_69 rfl (by decide) ?_
        exact sw_iret dX11_take_70 rfl (by
  unfold opTake; rw [if_pos ⟨c10, c17⟩]; simp only [Int.toNat_natCast]; rw [if_pos c48]; exact ⟨IA_copyU I3 (q4 c48) ha, rfl⟩)
      · rw [bIz_eq] at c48
        refine sw_iconst (v := zI (-1)) 52 dX11_take_51 rfl (by decide) ?_
        exact sw_iret dX11_take_52 rfl (by
  unfold opTake; rw [if_pos ⟨c10, c17⟩]; simp only [Int.toNat_natCast]; rw [if_neg (by rw [c48]; decide)]; exact ⟨I3, rfl⟩)
    · refine sw_iconst (v := zI (-1)) 21 dX11_take_20 rfl (by decide) ?_
      exact sw_iret dX11_take_21 rfl (by
  rw [ifz_eq] at c17
  unfold opTake; rw [if_neg (fun hh => c17 hh.2)]; exact ⟨I2, rfl⟩)
theorem whT_of {T : TbZ} {a b : Int} {r : Int32} (H : isAtT T (plT T a b T.1) a b ∧ r = zI (plT T a b T.1) ∨ ¬ isAtT T (plT T a b T.1) a b ∧ r = zI (-1)) : r = zI (whT T a b) := by
  unfold whT
  rcases H with ⟨h1, h2⟩ | ⟨h1, h2⟩
  · unfold isAtT at h1; rw [if_pos h1]; exact h2
  · unfold isAtT at h1; rw [if_neg h1]; exact h2
theorem whT_b {T : TbZ} (hN : T.1 ≤ 264) (a b : Int) : -1 ≤ whT T a b ∧ whT T a b < 264 := by
  unfold whT
  split <;> omega
theorem a_which (K : okS σ) (I : IA h σ) {s : Int} (s1 : -2147483648 ≤ s) (s2 : s < 2147483648) : sw_ct wA X l (d + 10) mX11_which [.ref 0, .int (zI s)] h (sw_qI wA X fun r h2 => IA h2 σ ∧ r = zI (opWhich (tabS σ) σ s)) := by
  refine sw_ct_of (by decide +kernel) (Nat.le_of_ble_eq_true rfl) rfl ?_
  refine sw_iload_n 1 dX11_which_0 rfl rfl rfl ?_
  refine sw_invSI 4 dX11_which_1 rfl lk_RX11_124 (c_isShelf s1 s2) rfl rfl (Nat.le_of_ble_eq_true rfl) (fun r1 h1 hq1 => ?_)
  obtain ⟨rfl, rfl⟩ := hq1
  refine sw_if_ne 9 7 dX11_which_4 (by decide) rfl (fun c4 => ?_) (fun c4 => ?_)
  · rw [ifz_eq, Decidable.not_not] at c4
    obtain ⟨a, rfl⟩ := Int.eq_ofNat_of_zero_le c4.1
    have ha : a < 4 := by omega
    have hin1 := zI_inN (a := a) (n := 4) ha (by decide)
    have hrf1 := rf_now ha
    have hU1 := (isU_now ha).1
    have b9 := shAB_b K ha
    have b1 := sh_b K ha (s := 1) (Or.inl rfl)
    have b2 := sh_b K ha (s := -1) (Or.inr rfl)
    refine sw_aload_n 10 dX11_which_9 rfl rfl rfl ?_
    refine sw_invVR 13 dX11_which_10 rfl lk_RX11_182 (a_known K I) ⟨by decide, rfl⟩ rfl rfl (Nat.le_of_ble_eq_true rfl) (fun r10 h10 hq10 => ?_)
    obtain ⟨rfl, I2, t1, t2, t3, t4⟩ := hq10
    have hV := IA_U K I2 ha
    have hn := (IA_B K I2).2.1
    have wb := whT_b (T := tabS σ) t1.2.1.1 (shA0 σ a) (shB0 σ a)
    refine sw_aload_n 14 dX11_which_13 rfl rfl rfl ?_
    refine sw_getR (b := 1) 17 dX11_which_14 rfl gf_RX11_12 (fun _ _ _ _ => rfl) ⟨by decide, rfl⟩ rfl ?_
    refine sw_getR (b := 5) 20 dX11_which_17 rfl gf_RX11_127 (fun _ _ _ _ => rfl) ⟨by decide, rfl⟩ rfl ?_
    refine sw_iload_n 21 dX11_which_20 rfl rfl rfl ?_
    refine sw_aald (b := (8 + 2 * a)) (t := 0) 22 dX11_which_21 rfl ⟨by decide, rfl⟩ (by decide) (by assumption) (by first | assumption | rfl) ?_
    refine sw_aload_n 23 dX11_which_22 rfl rfl rfl ?_
    refine sw_getR (b := 1) 26 dX11_which_23 rfl gf_RX11_12 (fun _ _ _ _ => rfl) ⟨by decide, rfl⟩ rfl ?_
    refine sw_getR (b := 2) 29 dX11_which_26 rfl gf_RX11_86 (fun _ _ _ _ => rfl) ⟨by decide, rfl⟩ rfl ?_
    refine sw_invVI 32 dX11_which_29 rfl lk_RX11_197 (c_A_numberOf (e := σ.1.2.1.2 a) (sg := σ.1.2.1.1 a) t1 t2 (isU_now ha) (IA_B K I2) (fun i hi => ⟨(hV.2.2 i (by omega)).1, by have := (hV.2.2 i (by omega)).2; omega⟩) hV.1 hV.2.1 (by omega) (by omega) (by omega)) ⟨by decide, rfl⟩ rfl rfl (Nat.le_of_ble_eq_true rfl) (fun r29 h29 hq29 => ?_)
    obtain ⟨rfl, HZ⟩ := hq29
    have e29 : r29 = zI (whT (tabS σ) (shA0 σ a) (shB0 σ a)) := whT_of HZ
    subst e29
    refine sw_istore_n (lc' := [(0, _), (1, _), (2, _)]) 33 dX11_which_32 rfl rfl (by decide) rfl ?_
    refine sw_iload_n 34 dX11_which_33 rfl rfl rfl ?_
    refine sw_if_ge 42 37 dX11_which_34 (by decide) rfl (fun c34 => ?_) (fun c34 => ?_)
    · rw [z0, zI_le (by omega) (by omega) (by omega) (by omega)] at c34
      refine sw_iload_n 43 dX11_which_42 rfl rfl rfl ?_
      exact sw_iret dX11_which_43 rfl (by
  unfold opWhich; rw [if_pos c4]; simp only [Int.toNat_natCast]; rw [if_neg (by omega)]; exact ⟨I2, rfl⟩)
    · rw [z0, zI_le (by omega) (by omega) (by omega) (by omega)] at c34
      refine sw_bipush (v := zI (-5)) 39 dX11_which_37 rfl (by decide) ?_
      refine sw_goto 43 dX11_which_39 (by decide) ?_
      exact sw_iret dX11_which_43 rfl (by
  unfold opWhich; rw [if_pos c4]; simp only [Int.toNat_natCast]; rw [if_pos (by omega)]; exact ⟨I2, rfl⟩)
  · refine sw_iconst (v := zI (-1)) 8 dX11_which_7 rfl (by decide) ?_
    exact sw_iret dX11_which_8 rfl (by
  rw [ifz_eq] at c4
  unfold opWhich; rw [if_neg c4]; exact ⟨I, rfl⟩)
theorem a_groupOf (K : okS σ) (I : IA h σ) {i : Int} (i1 : -2147483648 ≤ i) (i2 : i < 2147483648) : sw_ct wA X l (d + 10) mX11_groupOf [.ref 0, .int (zI i)] h (sw_qI wA X fun r h2 => IA h2 σ ∧ r = zI (opGroupOf (tabS σ) i)) := by
  refine sw_ct_of (by decide +kernel) (Nat.le_of_ble_eq_true rfl) rfl ?_
  refine sw_aload_n 1 dX11_groupOf_0 rfl rfl rfl ?_
  refine sw_invVR 4 dX11_groupOf_1 rfl lk_RX11_182 (a_known K I) ⟨by decide, rfl⟩ rfl rfl (Nat.le_of_ble_eq_true rfl) (fun r1 h1 hq1 => ?_)
  obtain ⟨rfl, I2, t1, t2, t3, t4⟩ := hq1
  refine sw_astore_n (lc' := [(0, _), (1, _), (2, _)]) 5 dX11_groupOf_4 rfl rfl (by decide) rfl ?_
  refine sw_aload_n 6 dX11_groupOf_5 rfl rfl rfl ?_
  refine sw_iload_n 7 dX11_groupOf_6 rfl rfl rfl ?_
  refine sw_invVI 10 dX11_groupOf_7 rfl lk_RX11_191 (c_A_has t1 i1 i2) ⟨by decide, rfl⟩ rfl rfl (Nat.le_of_ble_eq_true rfl) (fun r7 h7 hq7 => ?_)
  obtain ⟨rfl, rfl⟩ := hq7
  refine sw_if_eq 22 13 dX11_groupOf_10 (by decide) rfl (fun c10 => ?_) (fun c10 => ?_)
  · refine sw_iconst (v := zI (-1)) 23 dX11_groupOf_22 rfl (by decide) ?_
    exact sw_iret dX11_groupOf_23 rfl (by
  rw [ifz_eq] at c10
  unfold opGroupOf; rw [if_neg c10]; exact ⟨I2, rfl⟩)
  · rw [ifz_eq, Decidable.not_not] at c10
    obtain ⟨m, rfl⟩ := Int.eq_ofNat_of_zero_le c10.1
    have hN := t1.2.1.1
    have hm : m < (tabS σ).1 := by omega
    have hin2 := zI_inN (a := m) (n := 264) (by omega) (by decide)
    have tm := t1.2.2 m hm
    refine sw_aload_n 14 dX11_groupOf_13 rfl rfl rfl ?_
    refine sw_getR (b := 34) 17 dX11_groupOf_14 rfl gf_RX11_204 (fun _ _ _ _ => rfl) ⟨by decide, rfl⟩ rfl ?_
    refine sw_iload_n 18 dX11_groupOf_17 rfl rfl rfl ?_
    refine sw_iald 19 dX11_groupOf_18 rfl ⟨by decide, rfl⟩ (by assumption) ?_
    refine sw_goto 23 dX11_groupOf_19 (by decide) ?_
    exact sw_iret dX11_groupOf_23 rfl (by
  rw [zI_clampN (by omega), tm.2.2]
  unfold opGroupOf; rw [if_pos c10]; exact ⟨I2, rfl⟩)
theorem a_greatestHeightIn (K : okS σ) (I : IA h σ) (t0 : tblA h (tabS σ)) {g : Int} (g1 : -2147483648 ≤ g) (g2 : g < 2147483648) : sw_ct wA X l (d + 3) mX11_greatestHeightIn [.ref 0, .ref 31, .int (zI g)] h (sw_qI wA X fun r h2 => IA h2 σ ∧ r = zI (hgtT (tabS σ) σ.1.1.1 σ.1.1.2.1 g (tabS σ).1)) := by
  have hN := t0.2.1.1
  have hG := tabG_b (σ := σ) hN
  refine sw_ct_of (by decide +kernel) (Nat.le_of_ble_eq_true rfl) rfl ?_
  have loop : ∀ (c j : Nat) (H : sw_H), j + c = (tabS σ).1 → IA H σ → tblA H (tabS σ) → sw_wp wA X l (d + 3) mX11_greatestHeightIn (sw_qI wA X fun r h2 => IA h2 σ ∧ r = zI (hgtT (tabS σ) σ.1.1.1 σ.1.1.2.1 g (tabS σ).1)) 5 [(0, .ref 0), (1, .ref 31), (2, .int (zI g)), (3, .int (zI (hgtT (tabS σ) σ.1.1.1 σ.1.1.2.1 g j))), (4, .int (zI j))] [] H := by
    intro c
    induction c with
    | zero =>
      intro j H hj IH t1
      have : j = (tabS σ).1 := by omega
      subst this
      refine sw_iload 7 dX11_greatestHeightIn_5 rfl rfl ?_
      refine sw_aload_n 8 dX11_greatestHeightIn_7 rfl rfl rfl ?_
      refine sw_getI 11 dX11_greatestHeightIn_8 rfl gf_RX11_186 rfl ⟨by decide, rfl⟩ ?_
      rw [t1.1]
      refine sw_icmp_ge 74 14 dX11_greatestHeightIn_11 (by decide) rfl (fun c11 => ?_) (fun c11 => ?_)
      · refine sw_iload_n 75 dX11_greatestHeightIn_74 rfl rfl rfl ?_
        exact sw_iret dX11_greatestHeightIn_75 rfl (⟨IH, rfl⟩)
      · exact absurd (Int32.le_refl _) c11
    | succ c ih =>
      intro j H hj IH t1
      have hm : j < (tabS σ).1 := by omega
      have hin2 := zI_inN (a := j) (n := 264) (by omega) (by decide)
      have tm := t1.2.2 j hm
      have to := t1.2.1.2 j hm
      have hg := hG j hm
      have hb := hgtT_b (tabS σ) σ.1.1.1 σ.1.1.2.1 g j
      have hb2 := topZ_b (e := frU σ.1.1.1 σ.1.1.2.1 ((tabS σ).2.1 j) ((tabS σ).2.2.1 j)) (B := 6) 4 (fun i _ => by have := frU_b σ.1.1.1 σ.1.1.2.1 ((tabS σ).2.1 j) ((tabS σ).2.2.1 j) i; omega)
      have e9 : hgtT (tabS σ) σ.1.1.1 σ.1.1.2.1 g (j + 1) = if (tabS σ).2.2.2 j = g ∧ frOK σ.1.1.1 σ.1.1.2.1 ((tabS σ).2.1 j) ((tabS σ).2.2.1 j) = true then max (hgtT (tabS σ) σ.1.1.1 σ.1.1.2.1 g j) (topZ (frU σ.1.1.1 σ.1.1.2.1 ((tabS σ).2.1 j) ((tabS σ).2.2.1 j)) 4) else hgtT (tabS σ) σ.1.1.1 σ.1.1.2.1 g j := rfl
      refine sw_iload 7 dX11_greatestHeightIn_5 rfl rfl ?_
      refine sw_aload_n 8 dX11_greatestHeightIn_7 rfl rfl rfl ?_
      refine sw_getI 11 dX11_greatestHeightIn_8 rfl gf_RX11_186 rfl ⟨by decide, rfl⟩ ?_
      rw [t1.1]
      refine sw_icmp_ge 74 14 dX11_greatestHeightIn_11 (by decide) rfl (fun c11 => ?_) (fun c11 => ?_)
      · exact absurd c11 (by rw [zI_le (by omega) (by omega) (by omega) (by omega)]; omega)
      · refine sw_aload_n 15 dX11_greatestHeightIn_14 rfl rfl rfl ?_
        refine sw_getR (b := 34) 18 dX11_greatestHeightIn_15 rfl gf_RX11_204 (fun _ _ _ _ => rfl) ⟨by decide, rfl⟩ rfl ?_
        refine sw_iload 20 dX11_greatestHeightIn_18 rfl rfl ?_
        refine sw_iald 21 dX11_greatestHeightIn_20 rfl ⟨by decide, rfl⟩ (by assumption) ?_
        refine sw_iload_n 22 dX11_greatestHeightIn_21 rfl rfl rfl ?_
        rw [zI_clampN (by omega), tm.2.2]
        refine sw_icmp_ne 68 25 dX11_greatestHeightIn_22 (by decide) rfl (fun c22 => ?_) (fun c22 => ?_)
        · rw [zI_eq (by omega) (by omega) (by omega) (by omega)] at c22
          refine sw_iinc (v := zI 1) (lc' := [(0, _), (1, _), (2, _), (3, _), (4, _)]) 71 dX11_greatestHeightIn_68 rfl (by decide) rfl rfl rfl ?_
          refine sw_goto 5 dX11_greatestHeightIn_71 (by decide) ?_
          rw [zI_add]
          have i9 := ih (j + 1) _ (by omega) IH t1
          rw [e9, if_neg (fun hh => c22 hh.1)] at i9
          exact i9
        · rw [zI_eq (by omega) (by omega) (by omega) (by omega)] at c22
          refine sw_aload_n 26 dX11_greatestHeightIn_25 rfl rfl rfl ?_
          refine sw_getR (b := 60) 29 dX11_greatestHeightIn_26 rfl gf_RX11_45 (fun _ _ _ _ => rfl) ⟨by decide, rfl⟩ rfl ?_
          refine sw_aload_n 30 dX11_greatestHeightIn_29 rfl rfl rfl ?_
          refine sw_getR (b := 1) 33 dX11_greatestHeightIn_30 rfl gf_RX11_12 (fun _ _ _ _ => rfl) ⟨by decide, rfl⟩ rfl ?_
          refine sw_getR (b := 2) 36 dX11_greatestHeightIn_33 rfl gf_RX11_86 (fun _ _ _ _ => rfl) ⟨by decide, rfl⟩ rfl ?_
          refine sw_aload_n 37 dX11_greatestHeightIn_36 rfl rfl rfl ?_
          refine sw_getR (b := 32) 40 dX11_greatestHeightIn_37 rfl gf_RX11_192 (fun _ _ _ _ => rfl) ⟨by decide, rfl⟩ rfl ?_
          refine sw_iload 42 dX11_greatestHeightIn_40 rfl rfl ?_
          refine sw_lald 43 dX11_greatestHeightIn_42 rfl ⟨by decide, rfl⟩ (by assumption) ?_
          refine sw_aload_n 44 dX11_greatestHeightIn_43 rfl rfl rfl ?_
          refine sw_getR (b := 33) 47 dX11_greatestHeightIn_44 rfl gf_RX11_195 (fun _ _ _ _ => rfl) ⟨by decide, rfl⟩ rfl ?_
          refine sw_iload 49 dX11_greatestHeightIn_47 rfl rfl ?_
          refine sw_lald 50 dX11_greatestHeightIn_49 rfl ⟨by decide, rfl⟩ (by assumption) ?_
          rw [zI_clampN (by omega), tm.1, tm.2.1]
          refine sw_invVI 53 dX11_greatestHeightIn_50 rfl lk_RX11_175 (c_frac (IA_B K IH) (by omega) (by omega) (by omega) (by omega)) ⟨by decide, rfl⟩ rfl rfl (Nat.le_of_ble_eq_true rfl) (fun r50 h50 hq50 => ?_)
          obtain ⟨q1, q2, rfl, q4⟩ := hq50
          have I3 := IA_work IH q1 q2
          have t5 : tblA h50 (tabS σ) := tblA_ag t1 (fun a h1 h2 => ⟨q1 a (by omega) (by omega), by rw [q2]⟩)
          have i9 := ih (j + 1) h50 (by omega) I3 t5
          refine sw_if_eq 68 56 dX11_greatestHeightIn_53 (by decide) rfl (fun c53 => ?_) (fun c53 => ?_)
          · skip
            refine sw_iinc (v := zI 1) (lc' := [(0, _), (1, _), (2, _), (3, _), (4, _)]) 71 dX11_greatestHeightIn_68 rfl (by decide) rfl rfl rfl ?_
            refine sw_goto 5 dX11_greatestHeightIn_71 (by decide) ?_
            rw [bIz_eq] at c53
            rw [zI_add]
            rw [e9, if_neg (fun hh => by rw [c53] at hh; exact absurd hh.2 (by decide))] at i9
            exact i9
          · rw [bIz_eq, Bool.not_eq_false] at c53
            have w9 := q4 c53
            refine sw_iload_n 57 dX11_greatestHeightIn_56 rfl rfl rfl ?_
            refine sw_aload_n 58 dX11_greatestHeightIn_57 rfl rfl rfl ?_
            refine sw_getR (b := 60) 61 dX11_greatestHeightIn_58 rfl gf_RX11_45 (fun _ _ _ _ => rfl) ⟨by decide, rfl⟩ rfl ?_
            refine sw_invVI 64 dX11_greatestHeightIn_61 rfl lk_RX11_149 (c_U_greatestPower (e := frU σ.1.1.1 σ.1.1.2.1 ((tabS σ).2.1 j) ((tabS σ).2.2.1 j)) isU_work (fun i hi => ⟨w9.2 i hi, by have := frU_b σ.1.1.1 σ.1.1.2.1 ((tabS σ).2.1 j) ((tabS σ).2.2.1 j) i; omega⟩)) ⟨by decide, rfl⟩ rfl rfl (Nat.le_of_ble_eq_true rfl) (fun r61 h61 hq61 => ?_)
            obtain ⟨rfl, rfl⟩ := hq61
            refine sw_invSI 67 dX11_greatestHeightIn_64 rfl lk_RX11_360 (c_maxZ (by omega) (by omega) (by omega) (by omega)) rfl rfl (Nat.le_of_ble_eq_true rfl) (fun r64 h64 hq64 => ?_)
            obtain ⟨rfl, rfl⟩ := hq64
            refine sw_istore_n (lc' := [(0, _), (1, _), (2, _), (3, _), (4, _)]) 68 dX11_greatestHeightIn_67 rfl rfl (by decide) rfl ?_
            skip
            refine sw_iinc (v := zI 1) (lc' := [(0, _), (1, _), (2, _), (3, _), (4, _)]) 71 dX11_greatestHeightIn_68 rfl (by decide) rfl rfl rfl ?_
            refine sw_goto 5 dX11_greatestHeightIn_71 (by decide) ?_
            rw [zI_add]
            rw [e9, if_pos ⟨c22, c53⟩] at i9
            exact i9
  refine sw_iconst (v := zI 0) 1 dX11_greatestHeightIn_0 rfl (by decide) ?_
  refine sw_istore_n (lc' := [(0, _), (1, _), (2, _), (3, _)]) 2 dX11_greatestHeightIn_1 rfl rfl (by decide) rfl ?_
  refine sw_iconst (v := zI 0) 3 dX11_greatestHeightIn_2 rfl (by decide) ?_
  refine sw_istore (lc' := [(0, _), (1, _), (2, _), (3, _), (4, _)]) 5 dX11_greatestHeightIn_3 rfl (by decide) rfl ?_
  exact loop (tabS σ).1 0 _ (by omega) I t0
theorem a_group (K : okS σ) (I : IA h σ) {g x : Int} (g1 : -2147483648 ≤ g) (g2 : g < 2147483648) (x1 : -2147483648 ≤ x) (x2 : x < 2147483648) : sw_ct wA X l (d + 10) mX11_group [.ref 0, .int (zI g), .int (zI x)] h (sw_qI wA X fun r h2 => IA h2 σ ∧ r = zI (opGroup (tabS σ) (gcS σ) σ g x)) := by
  refine sw_ct_of (by decide +kernel) (Nat.le_of_ble_eq_true rfl) rfl ?_
  refine sw_aload_n 1 dX11_group_0 rfl rfl rfl ?_
  refine sw_invVR 4 dX11_group_1 rfl lk_RX11_182 (a_known K I) ⟨by decide, rfl⟩ rfl rfl (Nat.le_of_ble_eq_true rfl) (fun r1 h1 hq1 => ?_)
  obtain ⟨rfl, I2, t1, t2, t3, t4⟩ := hq1
  have hG := tabG_b (σ := σ) t1.2.1.1
  refine sw_astore_n (lc' := [(0, _), (1, _), (2, _), (3, _)]) 5 dX11_group_4 rfl rfl (by decide) rfl ?_
  refine sw_iload_n 6 dX11_group_5 rfl rfl rfl ?_
  refine sw_if_lt 17 9 dX11_group_6 (by decide) rfl (fun c6 => ?_) (fun c6 => ?_)
  · refine sw_iconst (v := zI (-1)) 18 dX11_group_17 rfl (by decide) ?_
    exact sw_iret dX11_group_18 rfl (by
  rw [z0, zI_lt (by omega) (by omega) (by omega) (by omega)] at c6
  unfold opGroup; rw [if_neg (by omega)]; exact ⟨I2, rfl⟩)
  · rw [z0, zI_lt (by omega) (by omega) (by omega) (by omega)] at c6
    refine sw_iload_n 10 dX11_group_9 rfl rfl rfl ?_
    refine sw_aload_n 11 dX11_group_10 rfl rfl rfl ?_
    refine sw_getI 14 dX11_group_11 rfl gf_RX11_201 rfl ⟨by decide, rfl⟩ ?_
    rw [t3]
    refine sw_icmp_lt 19 17 dX11_group_14 (by decide) rfl (fun c14 => ?_) (fun c14 => ?_)
    · rw [zI_lt (by omega) (by omega) (by omega) (by omega)] at c14
      refine sw_iload_n 20 dX11_group_19 rfl rfl rfl ?_
      refine sw_tab dX11_group_20 (by decide) ?_ ?_
      · intro i9 off9 hi9 he9
        match i9, hi9 with
        | 0, hi9 =>
          obtain rfl : off9 = 28 := (Option.some.inj (show some (28 : Int) = some off9 from hi9)).symm
          refine sw_at_pc (q := 48) (by decide) ?_
          have t20 := he9
          refine sw_aload_n 49 dX11_group_48 rfl rfl rfl ?_
          refine sw_iload_n 50 dX11_group_49 rfl rfl rfl ?_
          refine sw_invVI 53 dX11_group_50 rfl lk_RX11_207 (c_A_sizeOfGroup t1 hG g1 g2) ⟨by decide, rfl⟩ rfl rfl (Nat.le_of_ble_eq_true rfl) (fun r50 h50 hq50 => ?_)
          obtain ⟨rfl, rfl⟩ := hq50
          exact sw_iret dX11_group_53 rfl (by
  rw [zI_toInt x1 x2] at t20
  unfold opGroup; rw [if_pos (by omega), if_pos (by omega)]; exact ⟨I2, rfl⟩)
        | 1, hi9 =>
          obtain rfl : off9 = 34 := (Option.some.inj (show some (34 : Int) = some off9 from hi9)).symm
          refine sw_at_pc (q := 54) (by decide) ?_
          have t20 := he9
          refine sw_aload_n 55 dX11_group_54 rfl rfl rfl ?_
          refine sw_iload_n 56 dX11_group_55 rfl rfl rfl ?_
          refine sw_invVI 59 dX11_group_56 rfl lk_RX11_210 (c_A_firstOfGroup t1 hG g1 g2) ⟨by decide, rfl⟩ rfl rfl (Nat.le_of_ble_eq_true rfl) (fun r56 h56 hq56 => ?_)
          obtain ⟨rfl, rfl⟩ := hq56
          exact sw_iret dX11_group_59 rfl (by
  rw [zI_toInt x1 x2] at t20
  unfold opGroup; rw [if_pos (by omega), if_neg (by omega), if_pos (by omega)]; exact ⟨I2, rfl⟩)
        | 2, hi9 =>
          obtain rfl : off9 = 40 := (Option.some.inj (show some (40 : Int) = some off9 from hi9)).symm
          refine sw_at_pc (q := 60) (by decide) ?_
          have t20 := he9
          refine sw_aload_n 61 dX11_group_60 rfl rfl rfl ?_
          refine sw_aload_n 62 dX11_group_61 rfl rfl rfl ?_
          refine sw_iload_n 63 dX11_group_62 rfl rfl rfl ?_
          refine sw_invVI 66 dX11_group_63 rfl lk_RX11_213 (a_greatestHeightIn K I2 t1 g1 g2) ⟨by decide, rfl⟩ rfl rfl (Nat.le_of_ble_eq_true rfl) (fun r63 h63 hq63 => ?_)
          obtain ⟨I4, rfl⟩ := hq63
          exact sw_iret dX11_group_66 rfl (by
  rw [zI_toInt x1 x2] at t20
  unfold opGroup; rw [if_pos (by omega), if_neg (by omega), if_neg (by omega), if_pos (by omega)]; exact ⟨I4, rfl⟩)
        | k9 + 3, hi9 => exact absurd hi9 (by simp)
      · intro ho9
        refine sw_at_pc (q := 67) (by decide) ?_
        have t20 := ho9
        refine sw_iconst (v := zI (-1)) 68 dX11_group_67 rfl (by decide) ?_
        exact sw_iret dX11_group_68 rfl (by
  rw [zI_toInt x1 x2] at t20
  unfold opGroup; rw [if_pos (by omega), if_neg (by omega), if_neg (by omega), if_neg (by omega)]; exact ⟨I2, rfl⟩)
    · refine sw_iconst (v := zI (-1)) 18 dX11_group_17 rfl (by decide) ?_
      exact sw_iret dX11_group_18 rfl (by
  rw [zI_lt (by omega) (by omega) (by omega) (by omega)] at c14
  unfold opGroup; rw [if_neg (by omega)]; exact ⟨I2, rfl⟩)
end sw_ops4
