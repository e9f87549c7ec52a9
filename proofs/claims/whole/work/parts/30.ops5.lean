/-! THE CLASS'S CALLS, 5: sieves -/
theorem IA_fz {h h2 : sw_H} {σ : SgZ} (I : IA h σ) (A : ∀ a, a < 37 ∨ 60 ≤ a → h2.1 a = h.1 a ∧ h2.2 a = h.2 a) (F : iaF h2) : IA h2 σ := by
  obtain ⟨i1, i2, i3, i4, i5, i6, i7⟩ := I
  exact ⟨dkA_ag i1 (fun a h1 h2 => (A a (by omega)).1), iaM_ag i2 (by rw [(A 0 (by omega)).1]) (fun a h1 h2 => (A a (by omega)).1), iaK_ag i3 (by rw [(A 0 (by omega)).1]) (fun a h1 h2 => A a (by omega)), iaL_ag i4 (by rw [(A 0 (by omega)).1]) (by rw [(A 0 (by omega)).1]), iaT_ag i5 (fun a h1 h2 => (A a (by omega)).1), iaS_ag i6 (fun a h1 h2 => A a (by omega)), F⟩
def faultZ (σ : SgZ) (v : Int) : Int := if prmZ v 3 97 = false then -2 else if fndZ σ.1.1.2.1 v σ.1.1.1 0 = -1 then 1 else -3
theorem faultZ_1 {σ : SgZ} {v : Int} (h : faultZ σ v = 1) : 3 ≤ v ∧ v ≤ 97 ∧ isPr v = true ∧ fndZ σ.1.1.2.1 v σ.1.1.1 0 = -1 := by
  unfold faultZ at h
  by_cases c : prmZ v 3 97 = false
  · rw [if_pos c] at h; exact absurd h (by decide)
  · rw [if_neg c] at h
    rw [Bool.not_eq_false] at c
    by_cases c2 : fndZ σ.1.1.2.1 v σ.1.1.1 0 = -1
    · exact ⟨(prmZ_in c).1, (prmZ_in c).2, prmZ_pr c, c2⟩
    · rw [if_neg c2] at h; exact absurd h (by decide)
theorem faultZ_b (σ : SgZ) (v : Int) : faultZ σ v = 1 ∨ faultZ σ v = -2 ∨ faultZ σ v = -3 := by
  unfold faultZ; split
  · simp
  · split <;> simp
def setSv (σ : SgZ) (z : Nat × (Nat → Int)) : SgZ := ((σ.1.1, σ.1.2.1, z), σ.2)
def opSieve (σ : SgZ) (v : Int) : RgZ := if faultZ σ v = 1 then ((askS σ.1.2.2.1 σ.1.2.2.2 v).1, setSv σ (askS σ.1.2.2.1 σ.1.2.2.2 v)) else (faultZ σ v, σ)
def opSieveOf (σ : SgZ) (i : Int) : Int := if 0 ≤ i ∧ i < σ.1.2.2.1 then σ.1.2.2.2 i.toNat else -1
def opForget (σ : SgZ) (v : Int) : RgZ := if fndZ σ.1.2.2.2 v σ.1.2.2.1 0 = -1 then (-1, σ) else ((rmS σ.1.2.2.1 σ.1.2.2.2 (fndZ σ.1.2.2.2 v σ.1.2.2.1 0)).1, setSv σ (rmS σ.1.2.2.1 σ.1.2.2.2 (fndZ σ.1.2.2.2 v σ.1.2.2.1 0)))
def ordG (q p : Int) : Nat → Nat → Int → Int
  | 0, _, _ => -1
  | c + 1, k, r => if r = 1 then (k : Int) else ordG q p c (k + 1) (r * p % q)
def opOrder (σ : SgZ) (i v : Int) : Int := if 0 ≤ i ∧ i < σ.1.1.1 then (if faultZ σ v = 1 then ordG v (σ.1.1.2.1 i.toNat) (v.toNat - 1) 1 (σ.1.1.2.1 i.toNat % v) else faultZ σ v) else -1
noncomputable def opReach (σ : SgZ) (v : Int) : Int := if faultZ σ v = 1 then cntB (mkM v.toNat σ.1.1.1 σ.1.1.2.1) v.toNat else faultZ σ v
noncomputable def opPasses (σ : SgZ) (s v : Int) : Int := if 0 ≤ s ∧ s < 4 then (if faultZ σ v = 1 then (if mkM v.toNat σ.1.1.1 σ.1.1.2.1 ((1 - resM v.toNat (σ.1.2.1.1 s.toNat) σ.1.1.2.1 (σ.1.2.1.2 s.toNat) σ.1.1.1) % v).toNat then 1 else 0) else faultZ σ v) else -1
theorem IA_sv {h h1 : sw_H} {σ : SgZ} {z : Nat × (Nat → Int)} {f : Nat → Int32} {k9 : Int32} (I : IA h σ) (Z : atS h1 6 7 z) (e : h1 = sw_wI (sw_pI h 7 f) 6 1 k9) : IA (sw_wI h1 0 13 (zI 0)) (setSv σ z) ∧ (sw_wI h1 0 13 (zI 0)).1 6 1 = zI z.1 := by
  obtain ⟨w1, w2, w3, w4, w5⟩ := I.1
  have A : ∀ a, a ≠ 6 → a ≠ 7 → h1.1 a = h.1 a := fun a h1 h2 => by rw [e, sw_wI_ne h1, sw_pI_ne h2]
  have AL : h1.2 = h.2 := by rw [e]; rfl
  have B : ∀ a, 0 < a → (sw_wI h1 0 13 (zI 0)).1 a = h1.1 a := fun a ha => sw_wI_ne (by omega)
  have Z0 : ∀ k, k ≠ 13 → (sw_wI h1 0 13 (zI 0)).1 0 k = h.1 0 k := fun k hk => by rw [sw_wI_at]; simp only [va_up, if_neg hk]; rw [A 0 (by decide) (by decide)]
  have C : ∀ a, 0 < a → a ≠ 6 → a ≠ 7 → (sw_wI h1 0 13 (zI 0)).1 a = h.1 a := fun a h1 h2 h3 => by rw [B a h1, A a h2 h3]
  refine ⟨IA_mk I (fun a ha => ⟨C a (by omega) (by omega) (by omega), by show h1.2 a = _; rw [AL]⟩) (Z0 11 (by decide)) ⟨?_, ?_, ?_, ?_, ?_⟩ ?_ (Or.inl (by rw [sw_wI_at]; simp [va_up])), ?_⟩
  · rw [C _ (by decide) (by decide) (by decide)]; exact w1
  · intro i hi; rw [C _ (by decide) (by decide) (by decide), C _ (by decide) (by decide) (by decide)]; exact w2 i hi
  · intro s hs; rw [C _ (by omega) (by omega) (by omega), C _ (by omega) (by omega) (by omega)]; exact w3 s hs
  · rw [B _ (by decide)]; exact Z.1
  · intro i hi; rw [B _ (by decide)]; exact Z.2 i hi
  · exact iaK_ag I.2.2.1 (Z0 12 (by decide)) (fun a h1 _ => ⟨C a (by omega) (by omega) (by omega), by show _ = _; rw [show (sw_wI _ 0 13 (zI 0)).2 = h.2 from AL]⟩)
  · rw [B _ (by decide)]; exact Z.1
theorem cauZ_congr {q : Nat → Nat} {m m' : Nat → Nat → Bool} {sg : Int} {v : Nat → Int} : ∀ c s : Nat, (∀ t, s ≤ t → t < s + c → 0 < q t ∧ ∀ r, r < q t → m t r = m' t r) → cauZ q m sg v c s = cauZ q m' sg v c s
  | 0, _, _ => rfl
  | c + 1, s, H => by
    unfold cauZ
    have h1 := H s (by omega) (by omega)
    have h2 : ((1 - sg * v s) % q s).toNat < q s := by
      have a1 := Int.emod_nonneg (1 - sg * v s) (show (q s : Int) ≠ 0 by omega)
      have a2 := Int.emod_lt_of_pos (1 - sg * v s) (show (0 : Int) < q s by omega)
      omega
    rw [h1.2 _ h2, cauZ_congr c (s + 1) (fun t ht1 ht2 => H t (by omega) (by omega))]
theorem sumZ_congr {F G : (Nat → Int) → Int} {q : Nat → Nat} {p : Int} (h : ∀ v, F v = G v) : ∀ c v, sumZ F q p c v = sumZ G q p c v
  | 0, _ => rfl
  | c + 1, v => by unfold sumZ; rw [h, sumZ_congr h c]
theorem passZ_congr {k : Nat} {q : Nat → Nat} {m m' : Nat → Nat → Bool} {p bx : Nat → Int} (H : ∀ t, t < k → 0 < q t ∧ ∀ r, r < q t → m t r = m' t r) : ∀ f i v, passZ k q m p bx f i v = passZ k q m' p bx f i v
  | 0, i, v => by
    unfold passZ signsZ
    rw [cauZ_congr k 0 (fun t _ ht => H t (by omega)), cauZ_congr k 0 (fun t _ ht => H t (by omega))]
  | f + 1, i, v => by
    unfold passZ
    exact sumZ_congr (passZ_congr H f (i + 1)) _ _
section sw_ops5
variable {X : sw_X} {l : Launch} {d : Nat} {h : sw_H} {σ : SgZ}
theorem a_fault (K : okS σ) (I : IA h σ) {v : Int} (v1 : -2147483648 ≤ v) (v2 : v < 2147483648) : sw_ct wA X l (d + 1) mX11_faultOfModulus [.ref 0, .int (zI v)] h (sw_qI wA X fun r h2 => h2 = h ∧ r = zI (faultZ σ v)) := by
  have V := IA_B K I
  have fr := fndZ_in σ.1.1.2.1 v σ.1.1.1 0
  have hn := V.2.1
  refine sw_ct_of (by decide +kernel) (Nat.le_of_ble_eq_true rfl) rfl ?_
  refine sw_iload_n 1 dX11_faultOfModulus_0 rfl rfl rfl ?_
  refine sw_iconst (v := zI 3) 2 dX11_faultOfModulus_1 rfl (by decide) ?_
  refine sw_bipush (v := zI 97) 4 dX11_faultOfModulus_2 rfl (by decide) ?_
  refine sw_invSI 7 dX11_faultOfModulus_4 rfl lk_RX11_82 (c_isPrimeWithin v1 v2 (by decide) (by decide) (by decide) (by decide)) rfl rfl (Nat.le_of_ble_eq_true rfl) (fun r4 h4 hq4 => ?_)
  obtain ⟨rfl, rfl⟩ := hq4
  refine sw_if_ne 13 10 dX11_faultOfModulus_7 (by decide) rfl (fun c7 => ?_) (fun c7 => ?_)
  · rw [bIz_eq, Bool.not_eq_false] at c7
    refine sw_aload_n 14 dX11_faultOfModulus_13 rfl rfl rfl ?_
    refine sw_getR (b := 1) 17 dX11_faultOfModulus_14 rfl gf_RX11_12 (fun _ _ _ _ => rfl) ⟨by decide, rfl⟩ rfl ?_
    refine sw_getR (b := 2) 20 dX11_faultOfModulus_17 rfl gf_RX11_86 (fun _ _ _ _ => rfl) ⟨by decide, rfl⟩ rfl ?_
    refine sw_iload_n 21 dX11_faultOfModulus_20 rfl rfl rfl ?_
    refine sw_invVI 24 dX11_faultOfModulus_21 rfl lk_RX11_90 (c_B_placeOf isB_now V v1 v2) ⟨by decide, rfl⟩ rfl rfl (Nat.le_of_ble_eq_true rfl) (fun r21 h21 hq21 => ?_)
    obtain ⟨rfl, rfl⟩ := hq21
    refine sw_if_lt 32 27 dX11_faultOfModulus_24 (by decide) rfl (fun c24 => ?_) (fun c24 => ?_)
    · rw [z0, zI_lt (by omega) (by omega) (by omega) (by omega)] at c24
      refine sw_iconst (v := zI 1) 33 dX11_faultOfModulus_32 rfl (by decide) ?_
      exact sw_iret dX11_faultOfModulus_33 rfl (⟨rfl, by unfold faultZ; rw [if_neg (by rw [c7]; decide), if_pos (by omega)]⟩)
    · rw [z0, zI_lt (by omega) (by omega) (by omega) (by omega)] at c24
      refine sw_bipush (v := zI (-3)) 29 dX11_faultOfModulus_27 rfl (by decide) ?_
      refine sw_goto 33 dX11_faultOfModulus_29 (by decide) ?_
      exact sw_iret dX11_faultOfModulus_33 rfl (⟨rfl, by unfold faultZ; rw [if_neg (by rw [c7]; decide), if_neg (by omega)]⟩)
  · rw [bIz_eq] at c7
    refine sw_bipush (v := zI (-2)) 12 dX11_faultOfModulus_10 rfl (by decide) ?_
    exact sw_iret dX11_faultOfModulus_12 rfl (⟨rfl, by unfold faultZ; rw [if_pos c7]⟩)
theorem c_orderModulo {w : sw_W} {p q : Int} (p1 : 2 ≤ p) (p2 : p ≤ 31) (q1 : 3 ≤ q) (q2 : q ≤ 97) : sw_ct w X l d mX11_orderModulo [.int (zI p), .int (zI q)] h (sw_qI w X fun r h2 => h2 = h ∧ r = zI (ordG q p (q.toNat - 1) 1 (p % q))) := by
  have hz : ¬ zI q = 0 := by rw [z0, zI_eq (by omega) (by omega) (by omega) (by omega)]; omega
  refine sw_ct_of (by decide +kernel) (Nat.le_of_ble_eq_true rfl) rfl ?_
  generalize hR : ordG q p (q.toNat - 1) 1 (p % q) = R
  have loop : ∀ (c k : Nat) (r : Int), (k : Int) + c = q → 0 ≤ r → r < q → ordG q p c k (r * p % q) = R → sw_wp w X l d mX11_orderModulo (sw_qI w X fun r h2 => h2 = h ∧ r = zI R) 4 [(0, .int (zI p)), (1, .int (zI q)), (2, .int (zI r)), (3, .int (zI k))] [] h := by
    intro c
    induction c with
    | zero =>
      intro k r hk r0 r1 hr
      refine sw_iload_n 5 dX11_orderModulo_4 rfl rfl rfl ?_
      refine sw_iload_n 6 dX11_orderModulo_5 rfl rfl rfl ?_
      refine sw_icmp_ge 28 9 dX11_orderModulo_6 (by decide) rfl (fun c6 => ?_) (fun c6 => ?_)
      · refine sw_iconst (v := zI (-1)) 29 dX11_orderModulo_28 rfl (by decide) ?_
        exact sw_iret dX11_orderModulo_29 rfl (⟨rfl, by rw [← hr]; rfl⟩)
      · exact absurd (by rw [zI_le (by omega) (by omega) (by omega) (by omega)]; omega) c6
    | succ c ih =>
      intro k r hk r0 r1 hr
      have le : ordG q p (c + 1) k (r * p % q) = if r * p % q = 1 then (k : Int) else ordG q p c (k + 1) (r * p % q * p % q) := rfl
      have hm := mulM_b r0 (by omega) (show 0 ≤ p by omega) (by omega)
      have hm0 : 0 ≤ r * p % q := Int.emod_nonneg _ (by omega)
      have hm1 : r * p % q < q := Int.emod_lt_of_pos _ (by omega)
      refine sw_iload_n 5 dX11_orderModulo_4 rfl rfl rfl ?_
      refine sw_iload_n 6 dX11_orderModulo_5 rfl rfl rfl ?_
      refine sw_icmp_ge 28 9 dX11_orderModulo_6 (by decide) rfl (fun c6 => ?_) (fun c6 => ?_)
      · exact absurd c6 (by rw [zI_le (by omega) (by omega) (by omega) (by omega)]; omega)
      · refine sw_iload_n 10 dX11_orderModulo_9 rfl rfl rfl ?_
        refine sw_iload_n 11 dX11_orderModulo_10 rfl rfl rfl ?_
        refine sw_imul 12 dX11_orderModulo_11 rfl ?_
        refine sw_iload_n 13 dX11_orderModulo_12 rfl rfl rfl ?_
        refine sw_irem 14 dX11_orderModulo_13 rfl (by first | assumption | decide) ?_
        rw [zI_mul, zI_rem (by omega) (by omega) (by omega) (by omega), Int.tmod_eq_emod_of_nonneg (by omega)]
        refine sw_istore_n (lc' := [(0, _), (1, _), (2, _), (3, _)]) 15 dX11_orderModulo_14 rfl rfl (by decide) rfl ?_
        refine sw_iload_n 16 dX11_orderModulo_15 rfl rfl rfl ?_
        refine sw_iconst (v := zI 1) 17 dX11_orderModulo_16 rfl (by decide) ?_
        refine sw_icmp_ne 22 20 dX11_orderModulo_17 (by decide) rfl (fun c17 => ?_) (fun c17 => ?_)
        · rw [zI_eq (by omega) (by omega) (by omega) (by omega)] at c17
          refine sw_iinc (v := zI 1) (lc' := [(0, _), (1, _), (2, _), (3, _)]) 25 dX11_orderModulo_22 rfl (by decide) rfl rfl rfl ?_
          refine sw_goto 4 dX11_orderModulo_25 (by decide) ?_
          rw [zI_add]
          exact ih (k + 1) _ (by omega) hm0 hm1 (by rw [← hr, le, if_neg c17])
        · rw [zI_eq (by omega) (by omega) (by omega) (by omega)] at c17
          refine sw_iload_n 21 dX11_orderModulo_20 rfl rfl rfl ?_
          exact sw_iret dX11_orderModulo_21 rfl (⟨rfl, by rw [← hr, le, if_pos c17]⟩)
  refine sw_iconst (v := zI 1) 1 dX11_orderModulo_0 rfl (by decide) ?_
  refine sw_istore_n (lc' := [(0, _), (1, _), (2, _)]) 2 dX11_orderModulo_1 rfl rfl (by decide) rfl ?_
  refine sw_iconst (v := zI 1) 3 dX11_orderModulo_2 rfl (by decide) ?_
  refine sw_istore_n (lc' := [(0, _), (1, _), (2, _), (3, _)]) 4 dX11_orderModulo_3 rfl rfl (by decide) rfl ?_
  exact loop (q.toNat - 1) 1 1 (by omega) (by omega) (by omega) (by rw [Int.one_mul]; exact hR)
theorem a_sieve (K : okS σ) (I : IA h σ) {v : Int} (v1 : -2147483648 ≤ v) (v2 : v < 2147483648) : sw_ct wA X l (d + 3) mX11_sieve [.ref 0, .int (zI v)] h (sw_qI wA X fun r h2 => IA h2 (opSieve σ v).2 ∧ r = zI (opSieve σ v).1) := by
  obtain ⟨w1, w2, w3, w4, w5⟩ := I.1
  have kq := K.1.2.2
  have fb := faultZ_b σ v
  refine sw_ct_of (by decide +kernel) (Nat.le_of_ble_eq_true rfl) rfl ?_
  refine sw_aload_n 1 dX11_sieve_0 rfl rfl rfl ?_
  refine sw_iload_n 2 dX11_sieve_1 rfl rfl rfl ?_
  refine sw_invVI 5 dX11_sieve_2 rfl lk_RX11_227 (a_fault K I v1 v2) ⟨by decide, rfl⟩ rfl rfl (Nat.le_of_ble_eq_true rfl) (fun r2 h2 hq2 => ?_)
  obtain ⟨rfl, rfl⟩ := hq2
  refine sw_istore_n (lc' := [(0, _), (1, _), (2, _)]) 6 dX11_sieve_5 rfl rfl (by decide) rfl ?_
  refine sw_iload_n 7 dX11_sieve_6 rfl rfl rfl ?_
  refine sw_iconst (v := zI 1) 8 dX11_sieve_7 rfl (by decide) ?_
  refine sw_icmp_eq 13 11 dX11_sieve_8 (by decide) rfl (fun c8 => ?_) (fun c8 => ?_)
  · rw [zI_eq (by omega) (by omega) (by omega) (by omega)] at c8
    refine sw_aload_n 14 dX11_sieve_13 rfl rfl rfl ?_
    refine sw_getR (b := 1) 17 dX11_sieve_14 rfl gf_RX11_12 (fun _ _ _ _ => rfl) ⟨by decide, rfl⟩ rfl ?_
    refine sw_getR (b := 6) 20 dX11_sieve_17 rfl gf_RX11_230 (fun _ _ _ _ => rfl) ⟨by decide, rfl⟩ rfl ?_
    refine sw_iload_n 21 dX11_sieve_20 rfl rfl rfl ?_
    refine sw_invVV 24 dX11_sieve_21 rfl lk_RX11_234 (c_S_ask (q := σ.1.2.2.2) isS_now w4 kq.1 (fun i hi => ⟨w5 i hi, (kq.2.1 i hi).2.1, (kq.2.1 i hi).2.2.1⟩) v1 v2) ⟨by decide, rfl⟩ rfl rfl (Nat.le_of_ble_eq_true rfl) (fun h21 hq21 => ?_)
    obtain ⟨Z, f, k9, e⟩ := hq21
    have j9 := IA_sv I Z e
    refine sw_aload_n 25 dX11_sieve_24 rfl rfl rfl ?_
    refine sw_iconst (v := zI 0) 26 dX11_sieve_25 rfl (by decide) ?_
    refine sw_putZ 29 (by first | exact Or.inl rfl | exact Or.inr rfl | assumption) dX11_sieve_26 rfl pf_RX11_239 rfl ⟨by decide, rfl⟩ ?_
    refine sw_aload_n 30 dX11_sieve_29 rfl rfl rfl ?_
    refine sw_getR (b := 1) 33 dX11_sieve_30 rfl gf_RX11_12 (fun _ _ _ _ => rfl) ⟨by decide, rfl⟩ rfl ?_
    refine sw_getR (b := 6) 36 dX11_sieve_33 rfl gf_RX11_230 (fun _ _ _ _ => rfl) ⟨by decide, rfl⟩ rfl ?_
    refine sw_getI 39 dX11_sieve_36 rfl gf_RX11_243 rfl ⟨by decide, rfl⟩ ?_
    exact sw_iret dX11_sieve_39 rfl (by unfold opSieve; rw [if_pos c8]; exact j9)
  · rw [zI_eq (by omega) (by omega) (by omega) (by omega)] at c8
    refine sw_iload_n 12 dX11_sieve_11 rfl rfl rfl ?_
    exact sw_iret dX11_sieve_12 rfl (by unfold opSieve; rw [if_neg c8]; exact ⟨I, rfl⟩)
theorem a_sieveOf (K : okS σ) (I : IA h σ) {i : Int} (i1 : -2147483648 ≤ i) (i2 : i < 2147483648) : sw_ct wA X l d mX11_sieveOf [.ref 0, .int (zI i)] h (sw_qI wA X fun r h2 => IA h2 σ ∧ r = zI (opSieveOf σ i)) := by
  obtain ⟨w1, w2, w3, w4, w5⟩ := I.1
  have w4 : h.1 6 1 = zI σ.1.2.2.1 := w4
  have kq := K.1.2.2.1
  refine sw_ct_of (by decide +kernel) (Nat.le_of_ble_eq_true rfl) rfl ?_
  refine sw_iload_n 1 dX11_sieveOf_0 rfl rfl rfl ?_
  refine sw_if_lt 33 4 dX11_sieveOf_1 (by decide) rfl (fun c1 => ?_) (fun c1 => ?_)
  · refine sw_iconst (v := zI (-1)) 34 dX11_sieveOf_33 rfl (by decide) ?_
    exact sw_iret dX11_sieveOf_34 rfl (by
  rw [z0, zI_lt (by omega) (by omega) (by omega) (by omega)] at c1
  unfold opSieveOf; rw [if_neg (by omega)]; exact ⟨I, rfl⟩)
  · rw [z0, zI_lt (by omega) (by omega) (by omega) (by omega)] at c1
    refine sw_iload_n 5 dX11_sieveOf_4 rfl rfl rfl ?_
    refine sw_aload_n 6 dX11_sieveOf_5 rfl rfl rfl ?_
    refine sw_getR (b := 1) 9 dX11_sieveOf_6 rfl gf_RX11_12 (fun _ _ _ _ => rfl) ⟨by decide, rfl⟩ rfl ?_
    refine sw_getR (b := 6) 12 dX11_sieveOf_9 rfl gf_RX11_230 (fun _ _ _ _ => rfl) ⟨by decide, rfl⟩ rfl ?_
    refine sw_getI 15 dX11_sieveOf_12 rfl gf_RX11_243 rfl ⟨by decide, rfl⟩ ?_
    rw [w4]
    refine sw_icmp_ge 33 18 dX11_sieveOf_15 (by decide) rfl (fun c15 => ?_) (fun c15 => ?_)
    · refine sw_iconst (v := zI (-1)) 34 dX11_sieveOf_33 rfl (by decide) ?_
      exact sw_iret dX11_sieveOf_34 rfl (by
  rw [zI_le (by omega) (by omega) (by omega) (by omega)] at c15
  unfold opSieveOf; rw [if_neg (by omega)]; exact ⟨I, rfl⟩)
    · rw [zI_le (by omega) (by omega) (by omega) (by omega)] at c15
      obtain ⟨a, rfl⟩ := Int.eq_ofNat_of_zero_le (show 0 ≤ i by omega)
      have hin := zI_inN (a := a) (n := 4) (by omega) (by decide)
      refine sw_aload_n 19 dX11_sieveOf_18 rfl rfl rfl ?_
      refine sw_getR (b := 1) 22 dX11_sieveOf_19 rfl gf_RX11_12 (fun _ _ _ _ => rfl) ⟨by decide, rfl⟩ rfl ?_
      refine sw_getR (b := 6) 25 dX11_sieveOf_22 rfl gf_RX11_230 (fun _ _ _ _ => rfl) ⟨by decide, rfl⟩ rfl ?_
      refine sw_getR (b := 7) 28 dX11_sieveOf_25 rfl gf_RX11_244 (fun _ _ _ _ => rfl) ⟨by decide, rfl⟩ rfl ?_
      refine sw_iload_n 29 dX11_sieveOf_28 rfl rfl rfl ?_
      refine sw_iald 30 dX11_sieveOf_29 rfl ⟨by decide, rfl⟩ (by assumption) ?_
      refine sw_goto 34 dX11_sieveOf_30 (by decide) ?_
      exact sw_iret dX11_sieveOf_34 rfl (by
  unfold opSieveOf; rw [if_pos (by omega), zI_clampN (by omega)]
  exact ⟨I, w5 a (by omega)⟩)
theorem a_forget (K : okS σ) (I : IA h σ) {v : Int} (v1 : -2147483648 ≤ v) (v2 : v < 2147483648) : sw_ct wA X l (d + 2) mX11_forget [.ref 0, .int (zI v)] h (sw_qI wA X fun r h2 => IA h2 (opForget σ v).2 ∧ r = zI (opForget σ v).1) := by
  obtain ⟨w1, w2, w3, w4, w5⟩ := I.1
  have kq := K.1.2.2
  obtain ⟨S1, f, k9, S2⟩ := sRm_at (h := h) (n := σ.1.2.2.1) (q := σ.1.2.2.2) isS_now ⟨w4, w5⟩ (fndZ σ.1.2.2.2 v σ.1.2.2.1 0) (by have := fndZ_in σ.1.2.2.2 v σ.1.2.2.1 0; omega)
  have j9 := IA_sv I S1 S2
  refine sw_ct_of (by decide +kernel) (Nat.le_of_ble_eq_true rfl) rfl ?_
  refine sw_aload_n 1 dX11_forget_0 rfl rfl rfl ?_
  refine sw_getR (b := 1) 4 dX11_forget_1 rfl gf_RX11_12 (fun _ _ _ _ => rfl) ⟨by decide, rfl⟩ rfl ?_
  refine sw_getR (b := 6) 7 dX11_forget_4 rfl gf_RX11_230 (fun _ _ _ _ => rfl) ⟨by decide, rfl⟩ rfl ?_
  refine sw_iload_n 8 dX11_forget_7 rfl rfl rfl ?_
  refine sw_invVI 11 dX11_forget_8 rfl lk_RX11_247 (c_S_remove (q := σ.1.2.2.2) isS_now w4 kq.1 (fun i hi => ⟨w5 i hi, (kq.2.1 i hi).2.1, (kq.2.1 i hi).2.2.1⟩) v1 v2) ⟨by decide, rfl⟩ rfl rfl (Nat.le_of_ble_eq_true rfl) (fun r8 h8 hq8 => ?_)
  obtain ⟨rfl, rfl⟩ := hq8
  refine sw_if_ne 16 14 dX11_forget_11 (by decide) rfl (fun c11 => ?_) (fun c11 => ?_)
  · refine sw_aload_n 17 dX11_forget_16 rfl rfl rfl ?_
    refine sw_iconst (v := zI 0) 18 dX11_forget_17 rfl (by decide) ?_
    refine sw_putZ 21 (by first | exact Or.inl rfl | exact Or.inr rfl | assumption) dX11_forget_18 rfl pf_RX11_239 rfl ⟨by decide, rfl⟩ ?_
    refine sw_aload_n 22 dX11_forget_21 rfl rfl rfl ?_
    refine sw_getR (b := 1) 25 dX11_forget_22 rfl gf_RX11_12 (fun _ _ _ _ => rfl) ⟨by decide, rfl⟩ rfl ?_
    refine sw_getR (b := 6) 28 dX11_forget_25 rfl gf_RX11_230 (fun _ _ _ _ => rfl) ⟨by decide, rfl⟩ rfl ?_
    refine sw_getI 31 dX11_forget_28 rfl gf_RX11_243 rfl ⟨by decide, rfl⟩ ?_
    exact sw_iret dX11_forget_31 rfl (by
  by_cases c : fndZ σ.1.2.2.2 v σ.1.2.2.1 0 = -1
  · rw [if_pos c] at c11; exact absurd rfl c11
  · unfold opForget; rw [if_neg c]; exact j9)
  · refine sw_iconst (v := zI (-1)) 15 dX11_forget_14 rfl (by decide) ?_
    exact sw_iret dX11_forget_15 rfl (by
  by_cases c : fndZ σ.1.2.2.2 v σ.1.2.2.1 0 = -1
  · unfold opForget; rw [if_pos c]; unfold sRm; rw [if_pos c]; exact ⟨I, rfl⟩
  · rw [if_neg c] at c11; exact absurd c11 (by decide))
theorem a_order (K : okS σ) (I : IA h σ) {i v : Int} (i1 : -2147483648 ≤ i) (i2 : i < 2147483648) (v1 : -2147483648 ≤ v) (v2 : v < 2147483648) : sw_ct wA X l (d + 2) mX11_order [.ref 0, .int (zI i), .int (zI v)] h (sw_qI wA X fun r h2 => IA h2 σ ∧ r = zI (opOrder σ i v)) := by
  have V := IA_B K I
  have hn := V.2.1
  have fb := faultZ_b σ v
  refine sw_ct_of (by decide +kernel) (Nat.le_of_ble_eq_true rfl) rfl ?_
  refine sw_aload_n 1 dX11_order_0 rfl rfl rfl ?_
  refine sw_getR (b := 1) 4 dX11_order_1 rfl gf_RX11_12 (fun _ _ _ _ => rfl) ⟨by decide, rfl⟩ rfl ?_
  refine sw_getR (b := 2) 7 dX11_order_4 rfl gf_RX11_86 (fun _ _ _ _ => rfl) ⟨by decide, rfl⟩ rfl ?_
  refine sw_iload_n 8 dX11_order_7 rfl rfl rfl ?_
  refine sw_invVI 11 dX11_order_8 rfl lk_RX11_110 (c_B_has isB_now V.1 (by omega) i1 i2) ⟨by decide, rfl⟩ rfl rfl (Nat.le_of_ble_eq_true rfl) (fun r8 h8 hq8 => ?_)
  obtain ⟨rfl, rfl⟩ := hq8
  refine sw_if_ne 16 14 dX11_order_11 (by decide) rfl (fun c11 => ?_) (fun c11 => ?_)
  · rw [ifz_eq, Decidable.not_not] at c11
    obtain ⟨a, rfl⟩ := Int.eq_ofNat_of_zero_le c11.1
    have hin := zI_inN (a := a) (n := 4) (by omega) (by decide)
    have hp := V.2.2.1 a (by omega)
    refine sw_aload_n 17 dX11_order_16 rfl rfl rfl ?_
    refine sw_iload_n 18 dX11_order_17 rfl rfl rfl ?_
    refine sw_invVI 21 dX11_order_18 rfl lk_RX11_227 (a_fault K I v1 v2) ⟨by decide, rfl⟩ rfl rfl (Nat.le_of_ble_eq_true rfl) (fun r18 h18 hq18 => ?_)
    obtain ⟨rfl, rfl⟩ := hq18
    refine sw_istore_n (lc' := [(0, _), (1, _), (2, _), (3, _)]) 22 dX11_order_21 rfl rfl (by decide) rfl ?_
    refine sw_iload_n 23 dX11_order_22 rfl rfl rfl ?_
    refine sw_iconst (v := zI 1) 24 dX11_order_23 rfl (by decide) ?_
    refine sw_icmp_ne 46 27 dX11_order_24 (by decide) rfl (fun c24 => ?_) (fun c24 => ?_)
    · rw [zI_eq (by omega) (by omega) (by omega) (by omega)] at c24
      refine sw_iload_n 47 dX11_order_46 rfl rfl rfl ?_
      exact sw_iret dX11_order_47 rfl (by unfold opOrder; rw [if_pos c11, if_neg c24]; exact ⟨I, rfl⟩)
    · rw [zI_eq (by omega) (by omega) (by omega) (by omega)] at c24
      refine sw_aload_n 28 dX11_order_27 rfl rfl rfl ?_
      refine sw_getR (b := 1) 31 dX11_order_28 rfl gf_RX11_12 (fun _ _ _ _ => rfl) ⟨by decide, rfl⟩ rfl ?_
      refine sw_getR (b := 2) 34 dX11_order_31 rfl gf_RX11_86 (fun _ _ _ _ => rfl) ⟨by decide, rfl⟩ rfl ?_
      refine sw_getR (b := 3) 37 dX11_order_34 rfl gf_RX11_117 (fun _ _ _ _ => rfl) ⟨by decide, rfl⟩ rfl ?_
      refine sw_iload_n 38 dX11_order_37 rfl rfl rfl ?_
      refine sw_iald 39 dX11_order_38 rfl ⟨by decide, rfl⟩ (by assumption) ?_
      refine sw_iload_n 40 dX11_order_39 rfl rfl rfl ?_
      rw [zI_clampN (by omega), hp.1]
      refine sw_invSI 43 dX11_order_40 rfl lk_RX11_250 (c_orderModulo hp.2.1 hp.2.2 (faultZ_1 c24).1 (faultZ_1 c24).2.1) rfl rfl (Nat.le_of_ble_eq_true rfl) (fun r40 h40 hq40 => ?_)
      obtain ⟨rfl, rfl⟩ := hq40
      refine sw_goto 47 dX11_order_43 (by decide) ?_
      exact sw_iret dX11_order_47 rfl (by unfold opOrder; rw [if_pos c11, if_pos c24]; exact ⟨I, rfl⟩)
  · rw [ifz_eq] at c11
    refine sw_iconst (v := zI (-1)) 15 dX11_order_14 rfl (by decide) ?_
    exact sw_iret dX11_order_15 rfl (by unfold opOrder; rw [if_neg c11]; exact ⟨I, rfl⟩)
theorem isM_mod : isM wA 57 58 59 := ⟨⟨by decide, rfl⟩, rfl, rfl, ⟨by decide, rfl⟩, ⟨by decide, rfl⟩, by decide, by decide, by decide⟩
theorem IA_mod {g : sw_H} {q k : Nat} {f c : Nat → Int32} (I : IA h σ) (e : g = mH h 57 58 59 q f c k) : IA g σ := by
  subst e
  have A : ∀ a, a ≠ 57 → a ≠ 58 → a ≠ 59 → (mH h 57 58 59 q f c k).1 a = h.1 a := fun a h1 h2 h3 => mH_other h1 h2 h3
  refine IA_fz I (fun a ha => ⟨A a (by omega) (by omega) (by omega), rfl⟩) ⟨fun s hs => ?_, ⟨k, mH_k isM_mod⟩, ?_⟩
  · rw [A _ (by omega) (by omega) (by omega)]; exact I.2.2.2.2.2.2.1 s hs
  · rw [A _ (by omega) (by omega) (by omega)]; exact I.2.2.2.2.2.2.2.2
theorem mk_eq {q n : Nat} {p : Nat → Int} {m : Nat → Bool} (hm : ∀ r, r < q → (m r = true ↔ ReachZ q n p r)) : ∀ r, r < q → m r = mkM q n p r := by
  intro r hr
  have h1 := hm r hr
  have h2 := mkM_iff (q := q) (n := n) (p := p) (r := r)
  cases e1 : m r <;> cases e2 : mkM q n p r <;> simp_all
theorem a_reach (K : okS σ) (I : IA h σ) {v : Int} (v1 : -2147483648 ≤ v) (v2 : v < 2147483648) : sw_ct wA X l (d + 2) mX11_reach [.ref 0, .int (zI v)] h (sw_qI wA X fun r h2 => IA h2 σ ∧ r = zI (opReach σ v)) := by
  have V := IA_B K I
  have fb := faultZ_b σ v
  obtain ⟨k0, hk0⟩ := I.2.2.2.2.2.2.2.1
  refine sw_ct_of (by decide +kernel) (Nat.le_of_ble_eq_true rfl) rfl ?_
  refine sw_aload_n 1 dX11_reach_0 rfl rfl rfl ?_
  refine sw_iload_n 2 dX11_reach_1 rfl rfl rfl ?_
  refine sw_invVI 5 dX11_reach_2 rfl lk_RX11_227 (a_fault K I v1 v2) ⟨by decide, rfl⟩ rfl rfl (Nat.le_of_ble_eq_true rfl) (fun r2 h2 hq2 => ?_)
  obtain ⟨rfl, rfl⟩ := hq2
  refine sw_istore_n (lc' := [(0, _), (1, _), (2, _)]) 6 dX11_reach_5 rfl rfl (by decide) rfl ?_
  refine sw_iload_n 7 dX11_reach_6 rfl rfl rfl ?_
  refine sw_iconst (v := zI 1) 8 dX11_reach_7 rfl (by decide) ?_
  refine sw_icmp_eq 13 11 dX11_reach_8 (by decide) rfl (fun c8 => ?_) (fun c8 => ?_)
  · rw [zI_eq (by omega) (by omega) (by omega) (by omega)] at c8
    have hv := faultZ_1 c8
    obtain ⟨q, rfl⟩ := Int.eq_ofNat_of_zero_le (show 0 ≤ v by omega)
    refine sw_aload_n 14 dX11_reach_13 rfl rfl rfl ?_
    refine sw_getR (b := 57) 17 dX11_reach_14 rfl gf_RX11_38 (fun _ _ _ _ => rfl) ⟨by decide, rfl⟩ rfl ?_
    refine sw_aload_n 18 dX11_reach_17 rfl rfl rfl ?_
    refine sw_getR (b := 1) 21 dX11_reach_18 rfl gf_RX11_12 (fun _ _ _ _ => rfl) ⟨by decide, rfl⟩ rfl ?_
    refine sw_getR (b := 2) 24 dX11_reach_21 rfl gf_RX11_86 (fun _ _ _ _ => rfl) ⟨by decide, rfl⟩ rfl ?_
    refine sw_iload_n 25 dX11_reach_24 rfl rfl rfl ?_
    refine sw_invVV 28 dX11_reach_25 rfl lk_RX11_253 (c_M_fill isM_mod isB_now V (q := q) (by omega) (by omega) hk0 (by decide) (by decide) (by decide) (by decide) (by decide) (by decide)) ⟨by decide, rfl⟩ rfl rfl (Nat.le_of_ble_eq_true rfl) (fun h25 hq25 => ?_)
    obtain ⟨f, c, m, e, hf, hm⟩ := hq25
    refine sw_aload_n 29 dX11_reach_28 rfl rfl rfl ?_
    refine sw_getR (b := 57) 32 dX11_reach_29 rfl gf_RX11_38 (fun _ _ _ _ => rfl) ⟨by decide, rfl⟩ rfl ?_
    refine sw_getI 35 dX11_reach_32 rfl gf_RX11_257 rfl ⟨by decide, rfl⟩ ?_
    exact sw_iret dX11_reach_35 rfl (by
  unfold opReach; rw [if_pos c8]
  refine ⟨IA_mod I e, ?_⟩
  rw [e, mH_k isM_mod, cntB_congr q (mk_eq hm)]; rfl)
  · rw [zI_eq (by omega) (by omega) (by omega) (by omega)] at c8
    refine sw_iload_n 12 dX11_reach_11 rfl rfl rfl ?_
    exact sw_iret dX11_reach_12 rfl (by unfold opReach; rw [if_neg c8]; exact ⟨I, rfl⟩)
theorem a_passes (K : okS σ) (I : IA h σ) {s v : Int} (s1 : -2147483648 ≤ s) (s2 : s < 2147483648) (v1 : -2147483648 ≤ v) (v2 : v < 2147483648) : sw_ct wA X l (d + 3) mX11_passes [.ref 0, .int (zI s), .int (zI v)] h (sw_qI wA X fun r h2 => IA h2 σ ∧ r = zI (opPasses σ s v)) := by
  have V := IA_B K I
  have hn := V.2.1
  have fb := faultZ_b σ v
  obtain ⟨k0, hk0⟩ := I.2.2.2.2.2.2.2.1
  refine sw_ct_of (by decide +kernel) (Nat.le_of_ble_eq_true rfl) rfl ?_
  refine sw_iload_n 1 dX11_passes_0 rfl rfl rfl ?_
  refine sw_invSI 4 dX11_passes_1 rfl lk_RX11_124 (c_isShelf s1 s2) rfl rfl (Nat.le_of_ble_eq_true rfl) (fun r1 h1 hq1 => ?_)
  obtain ⟨rfl, rfl⟩ := hq1
  refine sw_if_ne 9 7 dX11_passes_4 (by decide) rfl (fun c4 => ?_) (fun c4 => ?_)
  · rw [ifz_eq, Decidable.not_not] at c4
    obtain ⟨a, rfl⟩ := Int.eq_ofNat_of_zero_le c4.1
    have ha : a < 4 := by omega
    have hin1 := zI_inN (a := a) (n := 4) ha (by decide)
    have hrf1 := rf_now ha
    have hU1 := (isU_now ha).1
    refine sw_aload_n 10 dX11_passes_9 rfl rfl rfl ?_
    refine sw_iload_n 11 dX11_passes_10 rfl rfl rfl ?_
    refine sw_invVI 14 dX11_passes_11 rfl lk_RX11_227 (a_fault K I v1 v2) ⟨by decide, rfl⟩ rfl rfl (Nat.le_of_ble_eq_true rfl) (fun r11 h11 hq11 => ?_)
    obtain ⟨rfl, rfl⟩ := hq11
    refine sw_istore_n (lc' := [(0, _), (1, _), (2, _), (3, _)]) 15 dX11_passes_14 rfl rfl (by decide) rfl ?_
    refine sw_iload_n 16 dX11_passes_15 rfl rfl rfl ?_
    refine sw_iconst (v := zI 1) 17 dX11_passes_16 rfl (by decide) ?_
    refine sw_icmp_eq 22 20 dX11_passes_17 (by decide) rfl (fun c17 => ?_) (fun c17 => ?_)
    · rw [zI_eq (by omega) (by omega) (by omega) (by omega)] at c17
      have hv := faultZ_1 c17
      obtain ⟨q, rfl⟩ := Int.eq_ofNat_of_zero_le (show 0 ≤ v by omega)
      refine sw_aload_n 23 dX11_passes_22 rfl rfl rfl ?_
      refine sw_getR (b := 57) 26 dX11_passes_23 rfl gf_RX11_38 (fun _ _ _ _ => rfl) ⟨by decide, rfl⟩ rfl ?_
      refine sw_aload_n 27 dX11_passes_26 rfl rfl rfl ?_
      refine sw_getR (b := 1) 30 dX11_passes_27 rfl gf_RX11_12 (fun _ _ _ _ => rfl) ⟨by decide, rfl⟩ rfl ?_
      refine sw_getR (b := 2) 33 dX11_passes_30 rfl gf_RX11_86 (fun _ _ _ _ => rfl) ⟨by decide, rfl⟩ rfl ?_
      refine sw_iload_n 34 dX11_passes_33 rfl rfl rfl ?_
      refine sw_invVV 37 dX11_passes_34 rfl lk_RX11_253 (c_M_fill isM_mod isB_now V (q := q) (by omega) (by omega) hk0 (by decide) (by decide) (by decide) (by decide) (by decide) (by decide)) ⟨by decide, rfl⟩ rfl rfl (Nat.le_of_ble_eq_true rfl) (fun h34 hq34 => ?_)
      obtain ⟨f, c, m, e, hf, hm⟩ := hq34
      have I2 := IA_mod I e
      have hV := IA_U K I2 ha
      have V2 := IA_B K I2
      have eq : h34.1 57 2 = zI q := by rw [e]; exact mH_q isM_mod
      have ef : ∀ r, r < q → h34.1 58 r = bI (m r) := fun r hr => by rw [e, mH_f isM_mod]; exact hf r hr
      have hb := resM_b (q := q) (sg := σ.1.2.1.1 a) (p := σ.1.1.2.1) (e := σ.1.2.1.2 a) (by omega) σ.1.1.1
      have hlt : ((1 - resM q (σ.1.2.1.1 a) σ.1.1.2.1 (σ.1.2.1.2 a) σ.1.1.1) % q).toNat < q := by
        have a1 := Int.emod_nonneg (1 - resM q (σ.1.2.1.1 a) σ.1.1.2.1 (σ.1.2.1.2 a) σ.1.1.1) (show (q : Int) ≠ 0 by omega)
        have a2 := Int.emod_lt_of_pos (1 - resM q (σ.1.2.1.1 a) σ.1.1.2.1 (σ.1.2.1.2 a) σ.1.1.1) (show (0 : Int) < q by omega)
        omega
      have mk9 := mk_eq hm _ hlt
      refine sw_aload_n 38 dX11_passes_37 rfl rfl rfl ?_
      refine sw_getR (b := 57) 41 dX11_passes_38 rfl gf_RX11_38 (fun _ _ _ _ => rfl) ⟨by decide, rfl⟩ rfl ?_
      refine sw_aload_n 42 dX11_passes_41 rfl rfl rfl ?_
      refine sw_getR (b := 57) 45 dX11_passes_42 rfl gf_RX11_38 (fun _ _ _ _ => rfl) ⟨by decide, rfl⟩ rfl ?_
      refine sw_aload_n 46 dX11_passes_45 rfl rfl rfl ?_
      refine sw_getR (b := 1) 49 dX11_passes_46 rfl gf_RX11_12 (fun _ _ _ _ => rfl) ⟨by decide, rfl⟩ rfl ?_
      refine sw_getR (b := 5) 52 dX11_passes_49 rfl gf_RX11_127 (fun _ _ _ _ => rfl) ⟨by decide, rfl⟩ rfl ?_
      refine sw_iload_n 53 dX11_passes_52 rfl rfl rfl ?_
      refine sw_aald (b := (8 + 2 * a)) (t := 0) 54 dX11_passes_53 rfl ⟨by decide, rfl⟩ (by decide) (by assumption) (by first | assumption | rfl) ?_
      refine sw_aload_n 55 dX11_passes_54 rfl rfl rfl ?_
      refine sw_getR (b := 1) 58 dX11_passes_55 rfl gf_RX11_12 (fun _ _ _ _ => rfl) ⟨by decide, rfl⟩ rfl ?_
      refine sw_getR (b := 2) 61 dX11_passes_58 rfl gf_RX11_86 (fun _ _ _ _ => rfl) ⟨by decide, rfl⟩ rfl ?_
      refine sw_invVI 64 dX11_passes_61 rfl lk_RX11_258 (c_M_residueOf (e := σ.1.2.1.2 a) (sg := σ.1.2.1.1 a) ⟨by decide, rfl⟩ eq (by omega) (by omega) (isU_now ha) isB_now V2 (fun i hi => ⟨(hV.2.2 i (by omega)).1, by have := (hV.2.2 i (by omega)).2; omega⟩) hV.1 hV.2.1) ⟨by decide, rfl⟩ rfl rfl (Nat.le_of_ble_eq_true rfl) (fun r61 h61 hq61 => ?_)
      obtain ⟨rfl, rfl⟩ := hq61
      refine sw_invVI 67 dX11_passes_64 rfl lk_RX11_261 (c_M_letsPass isM_mod eq (by omega) (by omega) m ef (by omega) (by omega)) ⟨by decide, rfl⟩ rfl rfl (Nat.le_of_ble_eq_true rfl) (fun r64 h64 hq64 => ?_)
      obtain ⟨rfl, rfl⟩ := hq64
      refine sw_if_eq 74 70 dX11_passes_67 (by decide) rfl (fun c67 => ?_) (fun c67 => ?_)
      · rw [bIz_eq, mk9] at c67
        refine sw_iconst (v := zI 0) 75 dX11_passes_74 rfl (by decide) ?_
        exact sw_iret dX11_passes_75 rfl (by
  unfold opPasses; rw [if_pos c4, if_pos c17]; simp only [Int.toNat_natCast]; rw [if_neg (by rw [c67]; decide)]; exact ⟨I2, rfl⟩)
      · rw [bIz_eq, Bool.not_eq_false, mk9] at c67
        refine sw_iconst (v := zI 1) 71 dX11_passes_70 rfl (by decide) ?_
        refine sw_goto 75 dX11_passes_71 (by decide) ?_
        exact sw_iret dX11_passes_75 rfl (by
  unfold opPasses; rw [if_pos c4, if_pos c17]; simp only [Int.toNat_natCast]; rw [if_pos c67]; exact ⟨I2, rfl⟩)
    · rw [zI_eq (by omega) (by omega) (by omega) (by omega)] at c17
      refine sw_iload_n 21 dX11_passes_20 rfl rfl rfl ?_
      exact sw_iret dX11_passes_21 rfl (by unfold opPasses; rw [if_pos c4, if_neg c17]; exact ⟨I, rfl⟩)
  · refine sw_iconst (v := zI (-1)) 8 dX11_passes_7 rfl (by decide) ?_
    exact sw_iret dX11_passes_8 rfl (by
  rw [ifz_eq] at c4
  unfold opPasses; rw [if_neg c4]; exact ⟨I, rfl⟩)
theorem a_left (K : okS σ) (I : IA h σ) : sw_ct wA X l (d + 10) mX11_left [.ref 0] h (sw_qI wA X fun r h2 => IA h2 σ ∧ r = zI (leftZ σ.1)) := by
  have V := IA_B K I
  have hn := V.2.1
  obtain ⟨w1, w2, w3, w4, w5⟩ := I.1
  have kq := K.1.2.2
  have cs := c_F_sift (X := X) (l := l) (d := d + (4 - σ.1.1.1)) (q := fun s => (σ.1.2.2.2 s).toNat) V w4 kq.1 (fun s hs => by
    have h1 := kq.2.1 s hs
    have h2 := w5 s hs
    refine ⟨?_, by omega, by omega⟩
    rw [show (((σ.1.2.2.2 s).toNat : Nat) : Int) = σ.1.2.2.2 s by omega]; exact h2) I.2.2.2.2.2.2.1
  rw [show d + (4 - σ.1.1.1) + σ.1.1.1 + 5 = d + 9 by omega] at cs
  refine sw_ct_of (by decide +kernel) (Nat.le_of_ble_eq_true rfl) rfl ?_
  refine sw_aload_n 1 dX11_left_0 rfl rfl rfl ?_
  refine sw_getZ 4 dX11_left_1 rfl gf_RX11_239 rfl ⟨by decide, rfl⟩ ?_
  refine sw_if_ne 37 7 dX11_left_4 (by decide) rfl (fun c4 => ?_) (fun c4 => ?_)
  · refine sw_aload_n 38 dX11_left_37 rfl rfl rfl ?_
    refine sw_getI 41 dX11_left_38 rfl gf_RX11_268 rfl ⟨by decide, rfl⟩ ?_
    exact sw_iret dX11_left_41 rfl (by
  rcases I.2.2.2.1 with z | ⟨z1, z2⟩
  · exact absurd z c4
  · exact ⟨I, z2⟩)
  · refine sw_aload_n 8 dX11_left_7 rfl rfl rfl ?_
    refine sw_aload_n 9 dX11_left_8 rfl rfl rfl ?_
    refine sw_getR (b := 37) 12 dX11_left_9 rfl gf_RX11_31 (fun _ _ _ _ => rfl) ⟨by decide, rfl⟩ rfl ?_
    refine sw_aload_n 13 dX11_left_12 rfl rfl rfl ?_
    refine sw_getR (b := 1) 16 dX11_left_13 rfl gf_RX11_12 (fun _ _ _ _ => rfl) ⟨by decide, rfl⟩ rfl ?_
    refine sw_getR (b := 2) 19 dX11_left_16 rfl gf_RX11_86 (fun _ _ _ _ => rfl) ⟨by decide, rfl⟩ rfl ?_
    refine sw_aload_n 20 dX11_left_19 rfl rfl rfl ?_
    refine sw_getR (b := 1) 23 dX11_left_20 rfl gf_RX11_12 (fun _ _ _ _ => rfl) ⟨by decide, rfl⟩ rfl ?_
    refine sw_getR (b := 6) 26 dX11_left_23 rfl gf_RX11_230 (fun _ _ _ _ => rfl) ⟨by decide, rfl⟩ rfl ?_
    refine sw_invVI 29 dX11_left_26 rfl lk_RX11_264 (cs) ⟨by decide, rfl⟩ rfl rfl (Nat.le_of_ble_eq_true rfl) (fun r26 h26 hq26 => ?_)
    obtain ⟨A, F, m, hm, rfl⟩ := hq26
    have eL : passZ σ.1.2.2.1 (fun s => (σ.1.2.2.2 s).toNat) m σ.1.1.2.1 σ.1.1.2.2 σ.1.1.1 0 (fun _ => 1) = leftZ σ.1 := passZ_congr (fun t ht => ⟨by have := kq.2.1 t ht; omega, fun r hr => mk_eq (hm t ht) r hr⟩) _ _ _
    rw [eL]
    have I2 : IA h26 σ := IA_fz I (fun a ha => ⟨A.1 a (by omega), by rw [A.2]⟩) ⟨F, by rw [A.1 57 (by omega)]; exact I.2.2.2.2.2.2.2.1, by rw [A.1 65 (by omega)]; exact I.2.2.2.2.2.2.2.2⟩
    refine sw_putI 32 dX11_left_29 rfl pf_RX11_268 rfl ⟨by decide, rfl⟩ ?_
    refine sw_aload_n 33 dX11_left_32 rfl rfl rfl ?_
    refine sw_iconst (v := zI 1) 34 dX11_left_33 rfl (by decide) ?_
    refine sw_putZ 37 (by first | exact Or.inl rfl | exact Or.inr rfl | assumption) dX11_left_34 rfl pf_RX11_239 rfl ⟨by decide, rfl⟩ ?_
    refine sw_aload_n 38 dX11_left_37 rfl rfl rfl ?_
    refine sw_getI 41 dX11_left_38 rfl gf_RX11_268 rfl ⟨by decide, rfl⟩ ?_
    exact sw_iret dX11_left_41 rfl (by
  have Zk : ∀ k, k ≠ 13 → k ≠ 14 → (sw_wI (sw_wI h26 0 14 (zI (leftZ σ.1))) 0 13 (zI 1)).1 0 k = h26.1 0 k := fun k h1 h2 => by rw [sw_wI_at, sw_wI_at]; simp only [va_up, if_neg h1, if_neg h2]
  have B : ∀ a, 0 < a → (sw_wI (sw_wI h26 0 14 (zI (leftZ σ.1))) 0 13 (zI 1)).1 a = h26.1 a := fun a ha => by rw [sw_wI_ne (by omega), sw_wI_ne (by omega)]
  have e13 : (sw_wI (sw_wI h26 0 14 (zI (leftZ σ.1))) 0 13 (zI 1)).1 0 13 = zI 1 := by rw [sw_wI_at]; simp [va_up]
  have e14 : (sw_wI (sw_wI h26 0 14 (zI (leftZ σ.1))) 0 13 (zI 1)).1 0 14 = zI (leftZ σ.1) := by rw [sw_wI_at, sw_wI_at]; simp [va_up]
  exact ⟨IA_mk I2 (fun a ha => ⟨B a (by omega), rfl⟩) (Zk 11 (by decide) (by decide)) (dkA_ag I2.1 (fun a h1 h2 => B a (by omega))) (iaK_ag I2.2.2.1 (Zk 12 (by decide) (by decide)) (fun a h1 h2 => ⟨B a (by omega), rfl⟩)) (Or.inr ⟨e13, e14⟩), e14⟩)
end sw_ops5
