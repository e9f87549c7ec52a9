/-! MODULUS: what PRIMES and -1 make modulo q -/
def isM (w : sw_W) (g ra rr : Nat) : Prop := sw_o w g 5 ∧ w.2.2 g 0 = ra ∧ w.2.2 g 1 = rr ∧ sw_r w ra 2 97 ∧ sw_r w rr 0 97 ∧ ra ≠ rr ∧ g ≠ ra ∧ g ≠ rr
def cntB (m : Nat → Bool) : Nat → Nat
  | 0 => 0
  | r + 1 => cntB m r + if m r then 1 else 0
theorem cntB_le (m : Nat → Bool) : ∀ q, cntB m q ≤ q
  | 0 => Nat.le_refl 0
  | q + 1 => by have := cntB_le m q; unfold cntB; split <;> omega
theorem cntB_lt (m : Nat → Bool) : ∀ q r, r < q → m r = false → cntB m q < q
  | 0, r, h, _ => by omega
  | q + 1, r, h, hm => by
    unfold cntB
    by_cases e : r = q
    · subst e; have := cntB_le m r; rw [hm]; simp; omega
    · have := cntB_lt m q r (by omega) hm; split <;> omega
theorem cntB_up (m : Nat → Bool) (x : Nat) (hm : m x = false) : ∀ q, cntB (va_up m x true) q = cntB m q + if x < q then 1 else 0
  | 0 => by simp [cntB]
  | q + 1 => by
    unfold cntB
    rw [cntB_up m x hm q]
    by_cases e : q = x
    · subst e; simp [va_up, hm]
    · have e2 : (x < q + 1) = (x < q) := by apply propext; omega
      simp only [va_up, if_neg e, e2]; omega
theorem cntB_congr {m m' : Nat → Bool} : ∀ q, (∀ r, r < q → m r = m' r) → cntB m q = cntB m' q
  | 0, _ => rfl
  | q + 1, h => by unfold cntB; rw [cntB_congr q (fun r hr => h r (by omega)), h q (by omega)]
/-- reached in k steps -/
def rchZ (q n : Nat) (p : Nat → Int) : Nat → Nat → Prop
  | 0, r => r = 1
  | k + 1, r => rchZ q n p k r ∨ (r < q ∧ ∃ s, rchZ q n p k s ∧ (r + s = q ∨ ∃ i, i < n ∧ (r : Int) = (s : Int) * p i % q))
def ReachZ (q n : Nat) (p : Nat → Int) (r : Nat) : Prop := ∃ k, rchZ q n p k r
theorem reach_one {q n : Nat} {p : Nat → Int} : ReachZ q n p 1 := ⟨0, rfl⟩
theorem reach_neg {q n : Nat} {p : Nat → Int} {r s : Nat} (h : ReachZ q n p s) (hr : r < q) (e : r + s = q) : ReachZ q n p r := by
  obtain ⟨k, hk⟩ := h
  exact ⟨k + 1, Or.inr ⟨hr, s, hk, Or.inl e⟩⟩
theorem reach_mul {q n : Nat} {p : Nat → Int} {r s i : Nat} (h : ReachZ q n p s) (hr : r < q) (hi : i < n) (e : (r : Int) = (s : Int) * p i % q) : ReachZ q n p r := by
  obtain ⟨k, hk⟩ := h
  exact ⟨k + 1, Or.inr ⟨hr, s, hk, Or.inr ⟨i, hi, e⟩⟩⟩
theorem reach_min {q n : Nat} {p : Nat → Int} (P : Nat → Prop) (h1 : P 1) (h2 : ∀ r s, P s → r < q → r + s = q → P r) (h3 : ∀ r s i, P s → r < q → i < n → (r : Int) = (s : Int) * p i % q → P r) : ∀ r, ReachZ q n p r → P r := by
  have key : ∀ k r, rchZ q n p k r → P r := by
    intro k
    induction k with
    | zero => intro r hr; rw [show r = 1 from hr]; exact h1
    | succ k ih =>
      intro r hr
      rcases hr with hr | ⟨hq, s, hs, e | ⟨i, hi, e⟩⟩
      · exact ih r hr
      · exact h2 r s (ih s hs) hq e
      · exact h3 r s i (ih s hs) hq hi e
  exact fun r ⟨k, hk⟩ => key k r hk
def bI (b : Bool) : Int32 := zI (if b then 1 else 0)
theorem bI_01 (b : Bool) : bI b = 0 ∨ bI b = 1 := by
  cases b
  · exact Or.inl rfl
  · exact Or.inr rfl
/-- a Modulus: marks m, the row c of k numbers -/
def mH (h : sw_H) (g ra rr q : Nat) (f c : Nat → Int32) (k : Nat) : sw_H := sw_pI (sw_pI (sw_pI h ra f) rr c) g (va_up (va_up (h.1 g) 2 (zI q)) 3 (zI k))
section sw_mod
variable {w : sw_W} {X : sw_X} {l : Launch} {d : Nat} {h : sw_H} {g ra rr q k : Nat} {f c : Nat → Int32} {b pa ba n : Nat} {p bx : Nat → Int}
theorem mH_q (S : isM w g ra rr) : (mH h g ra rr q f c k).1 g 2 = zI q := by rw [mH, sw_pI_at]; simp [va_up]
theorem mH_k (S : isM w g ra rr) : (mH h g ra rr q f c k).1 g 3 = zI k := by rw [mH, sw_pI_at]; simp [va_up]
theorem mH_f (S : isM w g ra rr) : (mH h g ra rr q f c k).1 ra = f := by rw [mH, sw_pI_ne S.2.2.2.2.2.2.1.symm, sw_pI_ne S.2.2.2.2.2.1, sw_pI_at]
theorem mH_c (S : isM w g ra rr) : (mH h g ra rr q f c k).1 rr = c := by rw [mH, sw_pI_ne S.2.2.2.2.2.2.2.symm, sw_pI_at]
theorem mH_other {a : Nat} (h1 : a ≠ g) (h2 : a ≠ ra) (h3 : a ≠ rr) : (mH h g ra rr q f c k).1 a = h.1 a := by rw [mH, sw_pI_ne h1, sw_pI_ne h3, sw_pI_ne h2]
theorem mH_upf (S : isM w g ra rr) {i : Nat} {x : Int32} : sw_wI (mH h g ra rr q f c k) ra i x = mH h g ra rr q (va_up f i x) c k := by
  rw [sw_wI_p, mH_f S]
  unfold mH
  rw [sw_pI_comm S.2.2.2.2.2.2.1, sw_pI_comm S.2.2.2.2.2.1.symm, sw_pI_pI]
theorem mH_upc (S : isM w g ra rr) {i : Nat} {x : Int32} : sw_wI (mH h g ra rr q f c k) rr i x = mH h g ra rr q f (va_up c i x) k := by
  rw [sw_wI_p, mH_c S]
  unfold mH
  rw [sw_pI_comm S.2.2.2.2.2.2.2, sw_pI_pI]
theorem mH_upk (S : isM w g ra rr) {j : Nat} : sw_wI (mH h g ra rr q f c k) g 3 (zI j) = mH h g ra rr q f c j := by
  rw [sw_wI_p]
  unfold mH
  rw [sw_pI_at, sw_pI_pI]
  congr 1; funext i; by_cases e : i = 3 <;> simp [va_up, e]
theorem mH_self (S : isM w g ra rr) (hk : h.1 g 3 = zI k) (hq : h.1 g 2 = zI q) : mH h g ra rr q (h.1 ra) (h.1 rr) k = h := by
  unfold mH
  rw [sw_pI_self (h := h) rfl, sw_pI_self (h := h) rfl]
  refine sw_pI_self ?_
  funext i; by_cases e : i = 3
  · subst e; simp [va_up, hk]
  · by_cases e2 : i = 2
    · subst e2; simp [va_up, hq]
    · simp [va_up, e, e2]
theorem mH_newq (S : isM w g ra rr) {q' k' : Nat} (hk : h.1 g 3 = zI k') : sw_wI h g 2 (zI q) = mH h g ra rr q (h.1 ra) (h.1 rr) k' := by
  unfold mH
  rw [sw_pI_self (h := h) rfl, sw_pI_self (h := h) rfl, sw_wI_p]
  congr 1
  funext i; by_cases e : i = 3
  · subst e; simp [va_up, hk]
  · by_cases e2 : i = 2 <;> simp [va_up, e, e2]
/-- note(x) -/
theorem c_M_note (S : isM w g ra rr) (hq : q ≤ 97) (m : Nat → Bool) (hf : ∀ r, r < q → f r = bI (m r)) (hk : k = cntB m q) {x : Int} (x1 : -2147483648 ≤ x) (x2 : x < 2147483648) : sw_ct w X l d mX5_note [.ref g, .int (zI x)] (mH h g ra rr q f c k) (sw_qV w X fun h2 => if 0 ≤ x ∧ x < q ∧ m x.toNat = false then h2 = mH h g ra rr q (va_up f x.toNat (zI 1)) (va_up c k (zI x)) (k + 1) else h2 = mH h g ra rr q f c k) := by
  have S0 := S
  obtain ⟨s1, s2, s3, s4, s5, s6, s7, s8⟩ := S
  refine sw_ct_of (by decide +kernel) (Nat.le_of_ble_eq_true rfl) rfl ?_
  refine sw_iload_n 1 dX5_note_0 rfl rfl rfl ?_
  refine sw_if_lt 21 4 dX5_note_1 (by decide) rfl (fun c1 => ?_) (fun c1 => ?_)
  · exact sw_vret dX5_note_21 rfl (by
  first
  | (rw [z0, zI_lt (by omega) (by omega) (by omega) (by omega)] at c1; rw [if_neg (by omega)])
  | (rw [zI_le (by omega) (by omega) (by omega) (by omega)] at c9; rw [if_neg (by omega)]))
  · refine sw_iload_n 5 dX5_note_4 rfl rfl rfl ?_
    refine sw_aload_n 6 dX5_note_5 rfl rfl rfl ?_
    refine sw_getI 9 dX5_note_6 rfl gf_RX5_19 rfl (by first | assumption | exact ⟨by decide, rfl⟩) ?_
    rw [mH_q S0]
    refine sw_icmp_ge 21 12 dX5_note_9 (by decide) rfl (fun c9 => ?_) (fun c9 => ?_)
    · exact sw_vret dX5_note_21 rfl (by
  first
  | (rw [z0, zI_lt (by omega) (by omega) (by omega) (by omega)] at c1; rw [if_neg (by omega)])
  | (rw [zI_le (by omega) (by omega) (by omega) (by omega)] at c9; rw [if_neg (by omega)]))
    · rw [z0, zI_lt (by omega) (by omega) (by omega) (by omega)] at c1
      rw [zI_le (by omega) (by omega) (by omega) (by omega)] at c9
      have hin : vp_in (zI x) 97 := zI_in (by omega) (by omega) (by omega)
      refine sw_aload_n 13 dX5_note_12 rfl rfl rfl ?_
      refine sw_getR 16 dX5_note_13 rfl gf_RX5_9 (fun _ _ _ _ => rfl) (by first | assumption | exact ⟨by decide, rfl⟩) (by first | assumption | rfl) ?_
      refine sw_iload_n 17 dX5_note_16 rfl rfl rfl ?_
      refine sw_zald 18 dX5_note_17 rfl (by first | assumption | exact ⟨by decide, rfl⟩) (by assumption) ?_
      rw [zI_clamp (by omega) (by omega), mH_f S0, hf _ (by omega)]
      refine sw_if_eq 22 21 dX5_note_18 (by decide) rfl (fun c18 => ?_) (fun c18 => ?_)
      · have hmx : m x.toNat = false := by
          cases hm : m x.toNat with
          | false => rfl
          | true => rw [hm] at c18; exact absurd c18 (by decide)
        have hlt := cntB_lt m q x.toNat (by omega) hmx
        have hin2 : vp_in (zI k) 97 := zI_inN (by omega) (by omega)
        refine sw_aload_n 23 dX5_note_22 rfl rfl rfl ?_
        refine sw_getR 26 dX5_note_23 rfl gf_RX5_9 (fun _ _ _ _ => rfl) (by first | assumption | exact ⟨by decide, rfl⟩) (by first | assumption | rfl) ?_
        refine sw_iload_n 27 dX5_note_26 rfl rfl rfl ?_
        refine sw_iconst (v := zI 1) 28 dX5_note_27 rfl (by decide) ?_
        refine sw_zast 29 (by first | exact Or.inl rfl | exact Or.inr rfl | assumption) dX5_note_28 rfl (by first | assumption | exact ⟨by decide, rfl⟩) (by assumption) ?_
        rw [zI_clamp (by omega) (by omega), mH_upf S0]
        refine sw_aload_n 30 dX5_note_29 rfl rfl rfl ?_
        refine sw_getR 33 dX5_note_30 rfl gf_RX5_15 (fun _ _ _ _ => rfl) (by first | assumption | exact ⟨by decide, rfl⟩) (by first | assumption | rfl) ?_
        refine sw_aload_n 34 dX5_note_33 rfl rfl rfl ?_
        refine sw_getI 37 dX5_note_34 rfl gf_RX5_32 rfl (by first | assumption | exact ⟨by decide, rfl⟩) ?_
        rw [mH_k S0]
        refine sw_iload_n 38 dX5_note_37 rfl rfl rfl ?_
        refine sw_iast 39 dX5_note_38 rfl (by first | assumption | exact ⟨by decide, rfl⟩) (by assumption) ?_
        rw [zI_clampN (by omega), mH_upc S0]
        refine sw_aload_n 40 dX5_note_39 rfl rfl rfl ?_
        refine sw_dup 41 dX5_note_40 rfl rfl ?_
        refine sw_getI 44 dX5_note_41 rfl gf_RX5_32 rfl (by first | assumption | exact ⟨by decide, rfl⟩) ?_
        rw [mH_k S0]
        refine sw_iconst (v := zI 1) 45 dX5_note_44 rfl (by decide) ?_
        refine sw_iadd 46 dX5_note_45 rfl ?_
        rw [zI_add]
        refine sw_putI 49 dX5_note_46 rfl pf_RX5_32 rfl (by first | assumption | exact ⟨by decide, rfl⟩) ?_
        exact sw_vret dX5_note_49 rfl (by
  rw [if_pos ⟨by omega, by omega, hmx⟩, show ((k : Int) + 1) = ((k + 1 : Nat) : Int) from rfl, mH_upk S0])
      · exact sw_vret dX5_note_21 rfl (by
  rw [if_neg (fun z => ?_)]
  rw [z.2.2] at c18
  exact c18 rfl)
def powM (q p : Int) : Nat → Int
  | 0 => 1
  | s + 1 => powM q p s * p % q
theorem powM_b {q p : Int} (hq : 2 ≤ q) : ∀ s, 0 ≤ powM q p s ∧ powM q p s < q
  | 0 => ⟨by show (0 : Int) ≤ 1; decide, by show (1 : Int) < q; omega⟩
  | s + 1 => ⟨Int.emod_nonneg _ (by omega), Int.emod_lt_of_pos _ (by omega)⟩
theorem mulM_b {a p : Int} (a1 : 0 ≤ a) (a2 : a < 97) (p1 : 0 ≤ p) (p2 : p ≤ 96) : 0 ≤ a * p ∧ a * p ≤ 9216 := by
  refine ⟨Int.mul_nonneg a1 p1, ?_⟩
  have h1 : a * p ≤ 96 * p := Int.mul_le_mul_of_nonneg_right (by omega) p1
  omega
theorem c_M_powerOfPrime (S : sw_o w g 5) (V : h.1 g 2 = zI q) (q1 : 3 ≤ q) (q2 : q ≤ 97) {p e : Int} (p1 : 2 ≤ p) (p2 : p ≤ 31) (e1 : -100 ≤ e) (e2 : e ≤ 100) : sw_ct w X l (d + 1) mX5_powerOfPrime [.ref g, .int (zI p), .int (zI e)] h (sw_qI w X fun r h2 => h2 = h ∧ r = zI (powM q p (e % (q - 1 : Nat)).toNat)) := by
  have hm0 : 0 ≤ e % (q - 1 : Nat) := Int.emod_nonneg _ (by omega)
  have hm1 : e % (q - 1 : Nat) < (q - 1 : Nat) := Int.emod_lt_of_pos _ (by omega)
  have eq1 : zI (q : Nat) - zI 1 = zI (q - 1 : Nat) := by rw [zI_sub]; congr 1; omega
  have hz : ¬ zI (q : Nat) = 0 := by rw [z0, zI_eq (by omega) (by omega) (by omega) (by omega)]; omega
  refine sw_ct_of (by decide +kernel) (Nat.le_of_ble_eq_true rfl) rfl ?_
  have loop : ∀ m j : Nat, j + m = (e % (q - 1 : Nat)).toNat → sw_wp w X l (d + 1) mX5_powerOfPrime (sw_qI w X fun r h2 => h2 = h ∧ r = zI (powM q p (e % (q - 1 : Nat)).toNat)) 17 [(0, .ref g), (1, .int (zI p)), (2, .int (zI e)), (3, .int (zI (e % (q - 1 : Nat)))), (4, .int (zI (powM q p j))), (5, .int (zI j))] [] h := by
    intro m
    induction m with
    | zero =>
      intro j hj
      refine sw_iload 19 dX5_powerOfPrime_17 rfl rfl ?_
      refine sw_iload_n 20 dX5_powerOfPrime_19 rfl rfl rfl ?_
      refine sw_icmp_ge 40 23 dX5_powerOfPrime_20 (by decide) rfl (fun c20 => ?_) (fun c20 => ?_)
      · refine sw_iload 42 dX5_powerOfPrime_40 rfl rfl ?_
        exact sw_iret dX5_powerOfPrime_42 rfl (⟨rfl, by rw [show (e % (q - 1 : Nat)).toNat = j by omega]⟩)
      · exact absurd ((zI_le (by omega) (by omega) (by omega) (by omega)).mpr (by omega)) c20
    | succ m ih =>
      intro j hj
      have hb := powM_b (q := q) (p := p) (by omega) j
      have hmb := mulM_b (a := powM q p j) (p := p) hb.1 (by omega) (by omega) (by omega)
      refine sw_iload 19 dX5_powerOfPrime_17 rfl rfl ?_
      refine sw_iload_n 20 dX5_powerOfPrime_19 rfl rfl rfl ?_
      refine sw_icmp_ge 40 23 dX5_powerOfPrime_20 (by decide) rfl (fun c20 => ?_) (fun c20 => ?_)
      · exact absurd c20 (by rw [zI_le (by omega) (by omega) (by omega) (by omega)]; omega)
      · refine sw_iload 25 dX5_powerOfPrime_23 rfl rfl ?_
        refine sw_iload_n 26 dX5_powerOfPrime_25 rfl rfl rfl ?_
        refine sw_imul 27 dX5_powerOfPrime_26 rfl ?_
        refine sw_aload_n 28 dX5_powerOfPrime_27 rfl rfl rfl ?_
        refine sw_getI 31 dX5_powerOfPrime_28 rfl gf_RX5_19 rfl (by first | assumption | exact ⟨by decide, rfl⟩) ?_
        rw [V]
        refine sw_irem 32 dX5_powerOfPrime_31 rfl (by first | assumption | decide) ?_
        refine sw_istore (lc' := [(0, _), (1, _), (2, _), (3, _), (4, _), (5, _)]) 34 dX5_powerOfPrime_32 rfl (by decide) rfl ?_
        refine sw_iinc (v := zI 1) (lc' := [(0, _), (1, _), (2, _), (3, _), (4, _), (5, _)]) 37 dX5_powerOfPrime_34 rfl (by decide) rfl rfl rfl ?_
        refine sw_goto 17 dX5_powerOfPrime_37 (by decide) ?_
        rw [zI_mul, zI_rem (by omega) (by omega) (by omega) (by omega), Int.tmod_eq_emod_of_nonneg (by omega), zI_add]
        exact ih (j + 1) (by omega)
  refine sw_iload_n 1 dX5_powerOfPrime_0 rfl rfl rfl ?_
  refine sw_aload_n 2 dX5_powerOfPrime_1 rfl rfl rfl ?_
  refine sw_getI 5 dX5_powerOfPrime_2 rfl gf_RX5_19 rfl (by first | assumption | exact ⟨by decide, rfl⟩) ?_
  refine sw_iconst (v := zI 1) 6 dX5_powerOfPrime_5 rfl (by decide) ?_
  refine sw_isub 7 dX5_powerOfPrime_6 rfl ?_
  rw [V, eq1]
  refine sw_invSI 10 dX5_powerOfPrime_7 rfl lk_RX5_56 (c_floorModZ (by omega) (by omega) (by omega) (by omega)) rfl rfl (Nat.le_of_ble_eq_true rfl) (fun r7 h7 hq7 => ?_)
  obtain ⟨rfl, rfl⟩ := hq7
  refine sw_istore_n (lc' := [(0, _), (1, _), (2, _), (3, _)]) 11 dX5_powerOfPrime_10 rfl rfl (by decide) rfl ?_
  refine sw_iconst (v := zI 1) 12 dX5_powerOfPrime_11 rfl (by decide) ?_
  refine sw_istore (lc' := [(0, _), (1, _), (2, _), (3, _), (4, _)]) 14 dX5_powerOfPrime_12 rfl (by decide) rfl ?_
  refine sw_iconst (v := zI 0) 15 dX5_powerOfPrime_14 rfl (by decide) ?_
  refine sw_istore (lc' := [(0, _), (1, _), (2, _), (3, _), (4, _), (5, _)]) 17 dX5_powerOfPrime_15 rfl (by decide) rfl ?_
  exact loop (e % (q - 1 : Nat)).toNat 0 (by omega)
def resM (q : Nat) (sg : Int) (p e : Nat → Int) : Nat → Int
  | 0 => if sg < 0 then (q : Int) - 1 else 1
  | i + 1 => resM q sg p e i * powM q (p i) (e i % (q - 1 : Nat)).toNat % q
theorem resM_b {q : Nat} {sg : Int} {p e : Nat → Int} (hq : 2 ≤ q) : ∀ i, 0 ≤ resM q sg p e i ∧ resM q sg p e i < q
  | 0 => by unfold resM; split <;> omega
  | i + 1 => ⟨Int.emod_nonneg _ (by omega), Int.emod_lt_of_pos _ (by omega)⟩
theorem c_M_residueOf {u pu : Nat} {sg : Int} {e : Nat → Int} (S : sw_o w g 5) (V : h.1 g 2 = zI q) (q1 : 3 ≤ q) (q2 : q ≤ 97) (SU : isU w u pu) (SB : isB w b pa ba) (VB : atB h b pa ba n p bx) (VU : ∀ i, i < n → h.1 pu i = zI (e i) ∧ -100 ≤ e i ∧ e i ≤ 100) (hs : h.1 u 1 = zI sg) (hs2 : sg = 1 ∨ sg = -1) : sw_ct w X l (d + 2) mX5_residueOf [.ref g, .ref u, .ref b] h (sw_qI w X fun r h2 => h2 = h ∧ r = zI (resM q sg p e n)) := by
  obtain ⟨s1, s2, s3, s4⟩ := SU
  obtain ⟨t1, t2, t3, t4, t5, t6, t7, t8⟩ := SB
  obtain ⟨v3, v4, v5, v6⟩ := VB
  have hz : ¬ zI (q : Nat) = 0 := by rw [z0, zI_eq (by omega) (by omega) (by omega) (by omega)]; omega
  refine sw_ct_of (by decide +kernel) (Nat.le_of_ble_eq_true rfl) rfl ?_
  have loop : ∀ m j : Nat, j + m = n → sw_wp w X l (d + 2) mX5_residueOf (sw_qI w X fun r h2 => h2 = h ∧ r = zI (resM q sg p e n)) 21 [(0, .ref g), (1, .ref u), (2, .ref b), (3, .int (zI (resM q sg p e j))), (4, .int (zI j))] [] h := by
    intro m
    induction m with
    | zero =>
      intro j hj
      have : j = n := by omega
      subst this
      refine sw_iload 23 dX5_residueOf_21 rfl rfl ?_
      refine sw_aload_n 24 dX5_residueOf_23 rfl rfl rfl ?_
      refine sw_getI 27 dX5_residueOf_24 rfl gf_RX5_39 rfl (by first | assumption | exact ⟨by decide, rfl⟩) ?_
      rw [v3]
      refine sw_icmp_ge 62 30 dX5_residueOf_27 (by decide) rfl (fun c27 => ?_) (fun c27 => ?_)
      · refine sw_iload_n 63 dX5_residueOf_62 rfl rfl rfl ?_
        exact sw_iret dX5_residueOf_63 rfl (⟨rfl, rfl⟩)
      · exact absurd (Int32.le_refl _) c27
    | succ m ih =>
      intro j hj
      have hv := VU j (by omega)
      have hp := v5 j (by omega)
      have hin : vp_in (zI j) 4 := zI_inN (by omega) (by omega)
      have hr := resM_b (q := q) (sg := sg) (p := p) (e := e) (by omega) j
      have hw := powM_b (q := q) (p := p j) (by omega) (e j % (q - 1 : Nat)).toNat
      have hmb := mulM_b hr.1 (by omega) hw.1 (by omega)
      refine sw_iload 23 dX5_residueOf_21 rfl rfl ?_
      refine sw_aload_n 24 dX5_residueOf_23 rfl rfl rfl ?_
      refine sw_getI 27 dX5_residueOf_24 rfl gf_RX5_39 rfl (by first | assumption | exact ⟨by decide, rfl⟩) ?_
      rw [v3]
      refine sw_icmp_ge 62 30 dX5_residueOf_27 (by decide) rfl (fun c27 => ?_) (fun c27 => ?_)
      · exact absurd c27 (by rw [zI_le (by omega) (by omega) (by omega) (by omega)]; omega)
      · refine sw_iload_n 31 dX5_residueOf_30 rfl rfl rfl ?_
        refine sw_aload_n 32 dX5_residueOf_31 rfl rfl rfl ?_
        refine sw_aload_n 33 dX5_residueOf_32 rfl rfl rfl ?_
        refine sw_getR 36 dX5_residueOf_33 rfl gf_RX5_42 (fun _ _ _ _ => rfl) (by first | assumption | exact ⟨by decide, rfl⟩) (by first | assumption | rfl) ?_
        refine sw_iload 38 dX5_residueOf_36 rfl rfl ?_
        refine sw_iald 39 dX5_residueOf_38 rfl (by first | assumption | exact ⟨by decide, rfl⟩) (by assumption) ?_
        rw [zI_clampN (by omega), hp.1]
        refine sw_aload_n 40 dX5_residueOf_39 rfl rfl rfl ?_
        refine sw_getR 43 dX5_residueOf_40 rfl gf_RX5_50 (fun _ _ _ _ => rfl) (by first | assumption | exact ⟨by decide, rfl⟩) (by first | assumption | rfl) ?_
        refine sw_iload 45 dX5_residueOf_43 rfl rfl ?_
        refine sw_iald 46 dX5_residueOf_45 rfl (by first | assumption | exact ⟨by decide, rfl⟩) (by assumption) ?_
        rw [zI_clampN (by omega), hv.1]
        refine sw_invVI 49 dX5_residueOf_46 rfl lk_RX5_53 (c_M_powerOfPrime S V q1 q2 hp.2.1 hp.2.2 hv.2.1 hv.2.2) (by first | assumption | exact ⟨by decide, rfl⟩) rfl rfl (Nat.le_of_ble_eq_true rfl) (fun r46 h46 hq46 => ?_)
        obtain ⟨rfl, rfl⟩ := hq46
        refine sw_imul 50 dX5_residueOf_49 rfl ?_
        refine sw_aload_n 51 dX5_residueOf_50 rfl rfl rfl ?_
        refine sw_getI 54 dX5_residueOf_51 rfl gf_RX5_19 rfl (by first | assumption | exact ⟨by decide, rfl⟩) ?_
        rw [V]
        refine sw_irem 55 dX5_residueOf_54 rfl (by first | assumption | decide) ?_
        refine sw_istore_n (lc' := [(0, _), (1, _), (2, _), (3, _), (4, _)]) 56 dX5_residueOf_55 rfl rfl (by decide) rfl ?_
        refine sw_iinc (v := zI 1) (lc' := [(0, _), (1, _), (2, _), (3, _), (4, _)]) 59 dX5_residueOf_56 rfl (by decide) rfl rfl rfl ?_
        refine sw_goto 21 dX5_residueOf_59 (by decide) ?_
        rw [zI_mul, zI_rem (by omega) (by omega) (by omega) (by omega), Int.tmod_eq_emod_of_nonneg (by omega), zI_add]
        exact ih (j + 1) (by omega)
  refine sw_aload_n 1 dX5_residueOf_0 rfl rfl rfl ?_
  refine sw_getI 4 dX5_residueOf_1 rfl gf_RX5_45 rfl (by first | assumption | exact ⟨by decide, rfl⟩) ?_
  rw [hs]
  refine sw_if_ge 16 7 dX5_residueOf_4 (by decide) rfl (fun c4 => ?_) (fun c4 => ?_)
  · rw [z0, zI_le (by omega) (by omega) (by omega) (by omega)] at c4
    refine sw_iconst (v := zI 1) 17 dX5_residueOf_16 rfl (by decide) ?_
    refine sw_istore_n (lc' := [(0, _), (1, _), (2, _), (3, _)]) 18 dX5_residueOf_17 rfl rfl (by decide) rfl ?_
    refine sw_iconst (v := zI 0) 19 dX5_residueOf_18 rfl (by decide) ?_
    refine sw_istore (lc' := [(0, _), (1, _), (2, _), (3, _), (4, _)]) 21 dX5_residueOf_19 rfl (by decide) rfl ?_
    have e9 := loop n 0 (by omega)
    rw [show resM q sg p e 0 = 1 by unfold resM; rw [if_neg (by omega)]] at e9
    exact e9
  · rw [z0, zI_le (by omega) (by omega) (by omega) (by omega)] at c4
    refine sw_aload_n 8 dX5_residueOf_7 rfl rfl rfl ?_
    refine sw_getI 11 dX5_residueOf_8 rfl gf_RX5_19 rfl (by first | assumption | exact ⟨by decide, rfl⟩) ?_
    refine sw_iconst (v := zI 1) 12 dX5_residueOf_11 rfl (by decide) ?_
    refine sw_isub 13 dX5_residueOf_12 rfl ?_
    refine sw_goto 17 dX5_residueOf_13 (by decide) ?_
    refine sw_istore_n (lc' := [(0, _), (1, _), (2, _), (3, _)]) 18 dX5_residueOf_17 rfl rfl (by decide) rfl ?_
    refine sw_iconst (v := zI 0) 19 dX5_residueOf_18 rfl (by decide) ?_
    refine sw_istore (lc' := [(0, _), (1, _), (2, _), (3, _), (4, _)]) 21 dX5_residueOf_19 rfl (by decide) rfl ?_
    rw [V, zI_sub]
    have e9 := loop n 0 (by omega)
    rw [show resM q sg p e 0 = (q : Int) - 1 by unfold resM; rw [if_pos (by omega)]] at e9
    exact e9
theorem c_M_letsPass (S : isM w g ra rr) (V : h.1 g 2 = zI q) (q1 : 3 ≤ q) (q2 : q ≤ 97) (m : Nat → Bool) (hf : ∀ r, r < q → h.1 ra r = bI (m r)) {x : Int} (x1 : -10000 ≤ x) (x2 : x ≤ 10000) : sw_ct w X l (d + 1) mX5_letsPass [.ref g, .int (zI x)] h (sw_qI w X fun r h2 => h2 = h ∧ r = bI (m ((1 - x) % q).toNat)) := by
  obtain ⟨s1, s2, s3, s4, s5, s6, s7, s8⟩ := S
  have hm0 : 0 ≤ (1 - x) % (q : Int) := Int.emod_nonneg _ (by omega)
  have hm1 : (1 - x) % (q : Int) < q := Int.emod_lt_of_pos _ (by omega)
  have hin : vp_in (zI ((1 - x) % (q : Int))) 97 := zI_in hm0 (by omega) (by omega)
  have hb := bI_01 (m ((1 - x) % (q : Int)).toNat)
  refine sw_ct_of (by decide +kernel) (Nat.le_of_ble_eq_true rfl) rfl ?_
  refine sw_aload_n 1 dX5_letsPass_0 rfl rfl rfl ?_
  refine sw_getR 4 dX5_letsPass_1 rfl gf_RX5_9 (fun _ _ _ _ => rfl) (by first | assumption | exact ⟨by decide, rfl⟩) (by first | assumption | rfl) ?_
  refine sw_iconst (v := zI 1) 5 dX5_letsPass_4 rfl (by decide) ?_
  refine sw_iload_n 6 dX5_letsPass_5 rfl rfl rfl ?_
  refine sw_isub 7 dX5_letsPass_6 rfl ?_
  refine sw_aload_n 8 dX5_letsPass_7 rfl rfl rfl ?_
  refine sw_getI 11 dX5_letsPass_8 rfl gf_RX5_19 rfl (by first | assumption | exact ⟨by decide, rfl⟩) ?_
  rw [V, zI_sub]
  refine sw_invSI 14 dX5_letsPass_11 rfl lk_RX5_56 (c_floorModZ (by omega) (by omega) (by omega) (by omega)) rfl rfl (Nat.le_of_ble_eq_true rfl) (fun r11 h11 hq11 => ?_)
  obtain ⟨rfl, rfl⟩ := hq11
  refine sw_zald 15 dX5_letsPass_14 rfl (by first | assumption | exact ⟨by decide, rfl⟩) (by assumption) ?_
  rw [zI_clamp (by omega) (by omega), hf _ (by omega)]
  exact sw_zret (hb) dX5_letsPass_15 rfl (⟨rfl, rfl⟩)
def invM (q n : Nat) (p : Nat → Int) (f c : Nat → Int32) (k : Nat) (m : Nat → Bool) (cz : Nat → Nat) : Prop :=
  (∀ r, r < q → f r = bI (m r)) ∧ k = cntB m q ∧ (∀ j, j < k → cz j < q ∧ c j = zI (cz j) ∧ m (cz j) = true) ∧ (∀ r, r < q → m r = true → ∃ j, j < k ∧ cz j = r) ∧ (∀ r, r < q → m r = true → ReachZ q n p r)
def leM (k : Nat) (m m' : Nat → Bool) (cz cz' : Nat → Nat) (k' : Nat) : Prop := (∀ r, m r = true → m' r = true) ∧ (∀ j, j < k → cz' j = cz j) ∧ k ≤ k'
theorem leM_rf {k : Nat} {m : Nat → Bool} {cz : Nat → Nat} : leM k m m cz cz k := ⟨fun _ h => h, fun _ _ => rfl, Nat.le_refl _⟩
theorem leM_tr {k k' k'' : Nat} {m m' m'' : Nat → Bool} {cz cz' cz'' : Nat → Nat} (a : leM k m m' cz cz' k') (b : leM k' m' m'' cz' cz'' k'') : leM k m m'' cz cz'' k'' :=
  ⟨fun r h => b.1 r (a.1 r h), fun j hj => (b.2.1 j (Nat.lt_of_lt_of_le hj a.2.2)).trans (a.2.1 j hj), Nat.le_trans a.2.2 b.2.2⟩
theorem c_M_note2 (S : isM w g ra rr) (hq : q ≤ 97) {m : Nat → Bool} {cz : Nat → Nat} (I : invM q n p f c k m cz) {x : Int} (x1 : -2147483648 ≤ x) (x2 : x < 2147483648) (hx : 0 ≤ x → x < q → ReachZ q n p x.toNat) : sw_ct w X l d mX5_note [.ref g, .int (zI x)] (mH h g ra rr q f c k) (sw_qV w X fun h2 => ∃ (f' c' : Nat → Int32) (k' : Nat) (m' : Nat → Bool) (cz' : Nat → Nat), h2 = mH h g ra rr q f' c' k' ∧ invM q n p f' c' k' m' cz' ∧ leM k m m' cz cz' k' ∧ (0 ≤ x → x < q → m' x.toNat = true)) := by
  obtain ⟨i1, i2, i3, i4, i5⟩ := I
  refine sw_ct_monoV (fun h2 z => ?_) (c_M_note S hq m i1 i2 x1 x2)
  by_cases e : 0 ≤ x ∧ x < q ∧ m x.toNat = false
  · rw [if_pos e] at z
    obtain ⟨e1, e2, e3⟩ := e
    have hxq : x.toNat < q := by omega
    have hxx : ((x.toNat : Nat) : Int) = x := by omega
    refine ⟨_, _, _, va_up m x.toNat true, va_up cz k x.toNat, z, ⟨fun r hr => ?_, ?_, fun j hj => ?_, fun r hr hm => ?_, fun r hr hm => ?_⟩, ⟨fun r hr => ?_, fun j hj => ?_, by omega⟩, fun _ _ => ?_⟩
    · by_cases f1 : r = x.toNat
      · subst f1; simp [va_up, bI]
      · simp only [va_up, if_neg f1]; exact i1 r hr
    · rw [cntB_up m _ e3, if_pos hxq, i2]
    · by_cases f1 : j = k
      · subst f1; simp only [va_up, if_true]; exact ⟨hxq, by rw [hxx], trivial⟩
      · obtain ⟨a1, a2, a3⟩ := i3 j (by omega)
        simp only [va_up, if_neg f1]
        refine ⟨a1, a2, ?_⟩
        by_cases f2 : cz j = x.toNat
        · rw [if_pos f2]
        · rw [if_neg f2]; exact a3
    · by_cases f1 : r = x.toNat
      · subst f1; exact ⟨k, by omega, by simp [va_up]⟩
      · simp only [va_up, if_neg f1] at hm
        obtain ⟨j, j1, j2⟩ := i4 r hr hm
        refine ⟨j, by omega, ?_⟩
        simp only [va_up, if_neg (show ¬ j = k by omega)]; exact j2
    · by_cases f1 : r = x.toNat
      · subst f1; exact hx e1 e2
      · simp only [va_up, if_neg f1] at hm; exact i5 r hr hm
    · by_cases f1 : r = x.toNat
      · subst f1; simp [va_up]
      · simp only [va_up, if_neg f1]; exact hr
    · simp only [va_up, if_neg (show ¬ j = k by omega)]
    · simp [va_up]
  · rw [if_neg e] at z
    refine ⟨_, _, _, m, cz, z, ⟨i1, i2, i3, i4, i5⟩, leM_rf, fun e1 e2 => ?_⟩
    cases hm : m x.toNat with
    | true => rfl
    | false => exact absurd ⟨e1, e2, hm⟩ e
/-- all of fill -/
theorem c_M_fill (S : isM w g ra rr) (SB : isB w b pa ba) (V : atB h b pa ba n p bx) (q1 : 3 ≤ q) (q2 : q ≤ 97) {k0 : Nat} (hk0 : h.1 g 3 = zI k0) (n1 : b ≠ g) (n2 : b ≠ ra) (n3 : b ≠ rr) (n4 : pa ≠ g) (n5 : pa ≠ ra) (n6 : pa ≠ rr) :
    sw_ct w X l (d + 1) mX5_fill [.ref g, .ref b, .int (zI q)] h (sw_qV w X fun h2 => ∃ (f c : Nat → Int32) (m : Nat → Bool), h2 = mH h g ra rr q f c (cntB m q) ∧ (∀ r, r < q → f r = bI (m r)) ∧ ∀ r, r < q → (m r = true ↔ ReachZ q n p r)) := by
  have S0 := S
  obtain ⟨s1, s2, s3, s4, s5, s6, s7, s8⟩ := S
  obtain ⟨t1, t2, t3, t4, t5, t6, t7, t8⟩ := SB
  obtain ⟨v3, v4, v5, v6⟩ := V
  refine sw_ct_of (by decide +kernel) (Nat.le_of_ble_eq_true rfl) rfl ?_
  generalize hQ : (sw_qV w X fun h2 => ∃ (f c : Nat → Int32) (m : Nat → Bool), h2 = mH h g ra rr q f c (cntB m q) ∧ (∀ r, r < q → f r = bI (m r)) ∧ ∀ r, r < q → (m r = true ↔ ReachZ q n p r)) = Qc
  have hz : ¬ zI (q : Nat) = 0 := by rw [z0, zI_eq (by omega) (by omega) (by omega) (by omega)]; omega
  -- the primes, for the number at place i
  have inner : ∀ (m9 j i : Nat) (f c : Nat → Int32) (k : Nat) (m : Nat → Bool) (cz : Nat → Nat), j + m9 = n → invM q n p f c k m cz → i < k →
      (∀ (f' c' : Nat → Int32) (k' : Nat) (m' : Nat → Bool) (cz' : Nat → Nat), invM q n p f' c' k' m' cz' → leM k m m' cz cz' k' → (∀ j', j ≤ j' → j' < n → ∀ r, r < q → (r : Int) = (cz i : Int) * p j' % q → m' r = true) → sw_wp w X l (d + 1) mX5_fill Qc 121 [(0, .ref g), (1, .ref b), (2, .int (zI q)), (3, .int (zI i))] [] (mH h g ra rr q f' c' k')) →
      sw_wp w X l (d + 1) mX5_fill Qc 83 [(0, .ref g), (1, .ref b), (2, .int (zI q)), (3, .int (zI i)), (4, .int (zI j))] [] (mH h g ra rr q f c k) := by
    intro m9
    induction m9 with
    | zero =>
      intro j i f c k m cz hj I hi K
      have : j = n := by omega
      subst this
      refine sw_iload 85 dX5_fill_83 rfl rfl ?_
      refine sw_aload_n 86 dX5_fill_85 rfl rfl rfl ?_
      refine sw_getI 89 dX5_fill_86 rfl gf_RX5_39 rfl (by first | assumption | exact ⟨by decide, rfl⟩) ?_
      rw [mH_other n1 n2 n3, v3]
      refine sw_icmp_ge 121 92 dX5_fill_89 (by decide) rfl (fun c89 => ?_) (fun c89 => ?_)
      · exact sw_wp_sub (by simp) (K f c k m cz I leM_rf (fun j' h1 h2 => by omega))
      · exact absurd (Int32.le_refl _) c89
    | succ m9 ih =>
      intro j i f c k m cz hj I hi K
      have hp := v5 j (by omega)
      have hin : vp_in (zI j) 4 := zI_inN (by omega) (by omega)
      obtain ⟨a1, a2, a3⟩ := I.2.2.1 i hi
      have hk97 : k ≤ 97 := by have := cntB_le m q; have := I.2.1; omega
      have hin2 : vp_in (zI i) 97 := zI_inN (by omega) (by omega)
      have hmb := mulM_b (a := (cz i : Int)) (p := p j) (by omega) (by omega) (by omega) (by omega)
      have hm0 : 0 ≤ (cz i : Int) * p j % q := Int.emod_nonneg _ (by omega)
      have hm1 : (cz i : Int) * p j % q < q := Int.emod_lt_of_pos _ (by omega)
      refine sw_iload 85 dX5_fill_83 rfl rfl ?_
      refine sw_aload_n 86 dX5_fill_85 rfl rfl rfl ?_
      refine sw_getI 89 dX5_fill_86 rfl gf_RX5_39 rfl (by first | assumption | exact ⟨by decide, rfl⟩) ?_
      rw [mH_other n1 n2 n3, v3]
      refine sw_icmp_ge 121 92 dX5_fill_89 (by decide) rfl (fun c89 => ?_) (fun c89 => ?_)
      · exact absurd c89 (by rw [zI_le (by omega) (by omega) (by omega) (by omega)]; omega)
      · refine sw_aload_n 93 dX5_fill_92 rfl rfl rfl ?_
        refine sw_aload_n 94 dX5_fill_93 rfl rfl rfl ?_
        refine sw_getR 97 dX5_fill_94 rfl gf_RX5_15 (fun _ _ _ _ => rfl) (by first | assumption | exact ⟨by decide, rfl⟩) (by first | assumption | rfl) ?_
        refine sw_iload_n 98 dX5_fill_97 rfl rfl rfl ?_
        refine sw_iald 99 dX5_fill_98 rfl (by first | assumption | exact ⟨by decide, rfl⟩) (by assumption) ?_
        rw [zI_clampN (by omega), mH_c S0, a2]
        refine sw_aload_n 100 dX5_fill_99 rfl rfl rfl ?_
        refine sw_getR 103 dX5_fill_100 rfl gf_RX5_42 (fun _ _ _ _ => rfl) (by first | assumption | exact ⟨by decide, rfl⟩) (by first | assumption | rfl) ?_
        refine sw_iload 105 dX5_fill_103 rfl rfl ?_
        refine sw_iald 106 dX5_fill_105 rfl (by first | assumption | exact ⟨by decide, rfl⟩) (by assumption) ?_
        rw [zI_clampN (by omega), mH_other n4 n5 n6, hp.1]
        refine sw_imul 107 dX5_fill_106 rfl ?_
        rw [zI_mul]
        refine sw_aload_n 108 dX5_fill_107 rfl rfl rfl ?_
        refine sw_getI 111 dX5_fill_108 rfl gf_RX5_19 rfl (by first | assumption | exact ⟨by decide, rfl⟩) ?_
        rw [mH_q S0]
        refine sw_irem 112 dX5_fill_111 rfl (by first | assumption | decide) ?_
        rw [zI_rem (by omega) (by omega) (by omega) (by omega), Int.tmod_eq_emod_of_nonneg (by omega)]
        refine sw_invVV 115 dX5_fill_112 rfl lk_RX5_35 (c_M_note2 S0 q2 I (by omega) (by omega) (fun _ _ => reach_mul (I.2.2.2.2 _ a1 a3) (by omega) (show j < n by omega) (by omega))) (by first | assumption | exact ⟨by decide, rfl⟩) rfl rfl (Nat.le_of_ble_eq_true rfl) (fun h112 hq112 => ?_)
        obtain ⟨f', c', k', m', cz', rfl, I', L', M'⟩ := hq112
        refine sw_iinc (v := zI 1) (lc' := [(0, _), (1, _), (2, _), (3, _), (4, _)]) 118 dX5_fill_115 rfl (by decide) rfl rfl rfl ?_
        refine sw_goto 83 dX5_fill_118 (by decide) ?_
        rw [zI_add]
        have hcz : cz' i = cz i := L'.2.1 i hi
        refine ih (j + 1) i f' c' k' m' cz' (by omega) I' (Nat.lt_of_lt_of_le hi L'.2.2) (fun f2 c2 k2 m2 cz2 I2 L2 M2 => K f2 c2 k2 m2 cz2 I2 (leM_tr L' L2) (fun j' h1 h2 r hr e => ?_))
        by_cases e9 : j' = j
        · subst e9
          have h9 := M' hm0 hm1
          rw [← e] at h9
          exact L2.1 r h9
        · exact M2 j' (by omega) h2 r hr (by rw [hcz]; exact e)
  have outer : ∀ (m9 i : Nat) (f c : Nat → Int32) (k : Nat) (m : Nat → Bool) (cz : Nat → Nat), i + m9 = q → invM q n p f c k m cz → m 1 = true →
      (∀ j, j < i → ∀ r, r < q → (r + cz j = q → m r = true) ∧ ∀ j', j' < n → (r : Int) = (cz j : Int) * p j' % q → m r = true) → i ≤ k →
      sw_wp w X l (d + 1) mX5_fill Qc 49 [(0, .ref g), (1, .ref b), (2, .int (zI q)), (3, .int (zI i))] [] (mH h g ra rr q f c k) := by
    intro m9
    induction m9 with
    | zero =>
      intro i f c k m cz hi I M1 PR hik
      have hk : k ≤ q := by have := cntB_le m q; have := I.2.1; omega
      have : i = k := by omega
      subst this
      have fin : ∀ r, r < q → (m r = true ↔ ReachZ q n p r) := by
        intro r hr
        refine ⟨I.2.2.2.2 r hr, fun hR => ?_⟩
        have := reach_min (q := q) (n := n) (p := p) (fun r => r < q ∧ m r = true) ⟨by omega, M1⟩ (fun r s h1 h2 h3 => ?_) (fun r s j' h1 h2 h3 h4 => ?_) r hR
        · exact this.2
        · obtain ⟨j, j1, j2⟩ := I.2.2.2.1 s h1.1 h1.2
          exact ⟨h2, (PR j j1 r h2).1 (by rw [j2]; exact h3)⟩
        · obtain ⟨j, j1, j2⟩ := I.2.2.2.1 s h1.1 h1.2
          exact ⟨h2, (PR j j1 r h2).2 j' h3 (by rw [j2]; exact h4)⟩
      subst hQ
      refine sw_iload_n 50 dX5_fill_49 rfl rfl rfl ?_
      refine sw_aload_n 51 dX5_fill_50 rfl rfl rfl ?_
      refine sw_getI 54 dX5_fill_51 rfl gf_RX5_32 rfl (by first | assumption | exact ⟨by decide, rfl⟩) ?_
      rw [mH_k S0]
      refine sw_icmp_ge 127 57 dX5_fill_54 (by decide) rfl (fun c54 => ?_) (fun c54 => ?_)
      · exact sw_vret dX5_fill_127 rfl (⟨f, c, m, by rw [← I.2.1], I.1, fin⟩)
      · exact absurd (Int32.le_refl _) c54
    | succ m9 ih =>
      intro i f c k m cz hi I M1 PR hik
      have hk : k ≤ q := by have := cntB_le m q; have := I.2.1; omega
      by_cases hlt : i < k
      · obtain ⟨a1, a2, a3⟩ := I.2.2.1 i hlt
        have hin2 : vp_in (zI i) 97 := zI_inN (by omega) (by omega)
        refine sw_iload_n 50 dX5_fill_49 rfl rfl rfl ?_
        refine sw_aload_n 51 dX5_fill_50 rfl rfl rfl ?_
        refine sw_getI 54 dX5_fill_51 rfl gf_RX5_32 rfl (by first | assumption | exact ⟨by decide, rfl⟩) ?_
        rw [mH_k S0]
        refine sw_icmp_ge 127 57 dX5_fill_54 (by decide) rfl (fun c54 => ?_) (fun c54 => ?_)
        · exact absurd c54 (by rw [zI_le (by omega) (by omega) (by omega) (by omega)]; omega)
        · refine sw_iload_n 58 dX5_fill_57 rfl rfl rfl ?_
          refine sw_aload_n 59 dX5_fill_58 rfl rfl rfl ?_
          refine sw_getI 62 dX5_fill_59 rfl gf_RX5_19 rfl (by first | assumption | exact ⟨by decide, rfl⟩) ?_
          rw [mH_q S0]
          refine sw_icmp_ge 127 65 dX5_fill_62 (by decide) rfl (fun c62 => ?_) (fun c62 => ?_)
          · exact absurd c62 (by rw [zI_le (by omega) (by omega) (by omega) (by omega)]; omega)
          · refine sw_aload_n 66 dX5_fill_65 rfl rfl rfl ?_
            refine sw_aload_n 67 dX5_fill_66 rfl rfl rfl ?_
            refine sw_getI 70 dX5_fill_67 rfl gf_RX5_19 rfl (by first | assumption | exact ⟨by decide, rfl⟩) ?_
            rw [mH_q S0]
            refine sw_aload_n 71 dX5_fill_70 rfl rfl rfl ?_
            refine sw_getR 74 dX5_fill_71 rfl gf_RX5_15 (fun _ _ _ _ => rfl) (by first | assumption | exact ⟨by decide, rfl⟩) (by first | assumption | rfl) ?_
            refine sw_iload_n 75 dX5_fill_74 rfl rfl rfl ?_
            refine sw_iald 76 dX5_fill_75 rfl (by first | assumption | exact ⟨by decide, rfl⟩) (by assumption) ?_
            rw [zI_clampN (by omega), mH_c S0, a2]
            refine sw_isub 77 dX5_fill_76 rfl ?_
            rw [zI_sub]
            refine sw_invVV 80 dX5_fill_77 rfl lk_RX5_35 (c_M_note2 S0 q2 I (by omega) (by omega) (fun h1 h2 => reach_neg (I.2.2.2.2 _ a1 a3) (by omega) (by omega))) (by first | assumption | exact ⟨by decide, rfl⟩) rfl rfl (Nat.le_of_ble_eq_true rfl) (fun h77 hq77 => ?_)
            obtain ⟨f', c', k', m', cz', rfl, I', L', M'⟩ := hq77
            refine sw_iconst (v := zI 0) 81 dX5_fill_80 rfl (by decide) ?_
            refine sw_istore (lc' := [(0, _), (1, _), (2, _), (3, _), (4, _)]) 83 dX5_fill_81 rfl (by decide) rfl ?_
            refine inner n 0 i f' c' k' m' cz' (by omega) I' (Nat.lt_of_lt_of_le hlt L'.2.2) (fun f2 c2 k2 m2 cz2 I2 L2 M2 => ?_)
            refine sw_iinc (v := zI 1) (lc' := [(0, _), (1, _), (2, _), (3, _)]) 124 dX5_fill_121 rfl (by decide) rfl rfl rfl ?_
            refine sw_goto 49 dX5_fill_124 (by decide) ?_
            rw [zI_add]
            have LL := leM_tr L' L2
            refine ih (i + 1) f2 c2 k2 m2 cz2 (by omega) I2 (LL.1 1 M1) (fun j hj r hr => ?_) (by have := LL.2.2; omega)
            by_cases e9 : j = i
            · subst e9
              have hc1 : cz2 j = cz j := LL.2.1 j hlt
              have hc2 : cz' j = cz j := L'.2.1 j hlt
              rw [hc1]
              refine ⟨fun e => ?_, fun j' hj' e => ?_⟩
              · have h9 := M' (by omega) (by omega)
                rw [show ((q : Int) - (cz j : Int)).toNat = r by omega] at h9
                exact L2.1 r h9
              · exact M2 j' (by omega) hj' r hr (by rw [hc2]; exact e)
            · have hj2 : j < i := by omega
              have hc1 : cz2 j = cz j := LL.2.1 j (by omega)
              rw [hc1]
              exact ⟨fun e => LL.1 r ((PR j hj2 r hr).1 e), fun j' hj' e => LL.1 r ((PR j hj2 r hr).2 j' hj' e)⟩
      · have : i = k := by omega
        subst this
        have fin : ∀ r, r < q → (m r = true ↔ ReachZ q n p r) := by
          intro r hr
          refine ⟨I.2.2.2.2 r hr, fun hR => ?_⟩
          have := reach_min (q := q) (n := n) (p := p) (fun r => r < q ∧ m r = true) ⟨by omega, M1⟩ (fun r s h1 h2 h3 => ?_) (fun r s j' h1 h2 h3 h4 => ?_) r hR
          · exact this.2
          · obtain ⟨j, j1, j2⟩ := I.2.2.2.1 s h1.1 h1.2
            exact ⟨h2, (PR j j1 r h2).1 (by rw [j2]; exact h3)⟩
          · obtain ⟨j, j1, j2⟩ := I.2.2.2.1 s h1.1 h1.2
            exact ⟨h2, (PR j j1 r h2).2 j' h3 (by rw [j2]; exact h4)⟩
        subst hQ
        refine sw_iload_n 50 dX5_fill_49 rfl rfl rfl ?_
        refine sw_aload_n 51 dX5_fill_50 rfl rfl rfl ?_
        refine sw_getI 54 dX5_fill_51 rfl gf_RX5_32 rfl (by first | assumption | exact ⟨by decide, rfl⟩) ?_
        rw [mH_k S0]
        refine sw_icmp_ge 127 57 dX5_fill_54 (by decide) rfl (fun c54 => ?_) (fun c54 => ?_)
        · exact sw_vret dX5_fill_127 rfl (⟨f, c, m, by rw [← I.2.1], I.1, fin⟩)
        · exact absurd (Int32.le_refl _) c54
  have clear : ∀ (m9 j : Nat), j + m9 = q → sw_wp w X l (d + 1) mX5_fill Qc 16 [(0, .ref g), (1, .ref b), (2, .int (zI q)), (3, .int (zI j))] [] (mH h g ra rr q (fun r => if r < j then zI 0 else h.1 ra r) (h.1 rr) k0) := by
    intro m9
    induction m9 with
    | zero =>
      intro j hj
      have : j = q := by omega
      subst this
      have I0 : invM j n p (fun r => if r < j then zI 0 else h.1 ra r) (h.1 rr) 0 (fun _ => false) (fun _ => 0) := by
        have hc : ∀ z, cntB (fun _ => false) z = 0 := by
          intro z
          induction z with
          | zero => rfl
          | succ z ih => unfold cntB; rw [ih]; rfl
        exact ⟨fun r hr => by simp only [if_pos hr]; rfl, (hc j).symm, fun z hz => by omega, fun r _ hm => (by cases hm), fun r _ hm => (by cases hm)⟩
      refine sw_iload_n 17 dX5_fill_16 rfl rfl rfl ?_
      refine sw_aload_n 18 dX5_fill_17 rfl rfl rfl ?_
      refine sw_getI 21 dX5_fill_18 rfl gf_RX5_19 rfl (by first | assumption | exact ⟨by decide, rfl⟩) ?_
      rw [mH_q S0]
      refine sw_icmp_ge 37 24 dX5_fill_21 (by decide) rfl (fun c21 => ?_) (fun c21 => ?_)
      · refine sw_aload_n 38 dX5_fill_37 rfl rfl rfl ?_
        refine sw_iconst (v := zI 0) 39 dX5_fill_38 rfl (by decide) ?_
        refine sw_putI 42 dX5_fill_39 rfl pf_RX5_32 rfl (by first | assumption | exact ⟨by decide, rfl⟩) ?_
        rw [show (0 : Int) = ((0 : Nat) : Int) from rfl, mH_upk S0]
        refine sw_aload_n 43 dX5_fill_42 rfl rfl rfl ?_
        refine sw_iconst (v := zI 1) 44 dX5_fill_43 rfl (by decide) ?_
        refine sw_invVV 47 dX5_fill_44 rfl lk_RX5_35 (c_M_note2 S0 q2 I0 (x := 1) (by omega) (by omega) (fun _ _ => reach_one)) (by first | assumption | exact ⟨by decide, rfl⟩) rfl rfl (Nat.le_of_ble_eq_true rfl) (fun h44 hq44 => ?_)
        obtain ⟨f', c', k', m', cz', rfl, I', L', M'⟩ := hq44
        refine sw_iconst (v := zI 0) 48 dX5_fill_47 rfl (by decide) ?_
        refine sw_istore_n (lc' := [(0, _), (1, _), (2, _), (3, _)]) 49 dX5_fill_48 rfl rfl (by decide) rfl ?_
        exact outer j 0 f' c' k' m' cz' (by omega) I' (M' (by omega) (by omega)) (fun z hz => by omega) (by omega)
      · exact absurd (Int32.le_refl _) c21
    | succ m9 ih =>
      intro j hj
      have hin : vp_in (zI j) 97 := zI_inN (by omega) (by omega)
      refine sw_iload_n 17 dX5_fill_16 rfl rfl rfl ?_
      refine sw_aload_n 18 dX5_fill_17 rfl rfl rfl ?_
      refine sw_getI 21 dX5_fill_18 rfl gf_RX5_19 rfl (by first | assumption | exact ⟨by decide, rfl⟩) ?_
      rw [mH_q S0]
      refine sw_icmp_ge 37 24 dX5_fill_21 (by decide) rfl (fun c21 => ?_) (fun c21 => ?_)
      · exact absurd c21 (by rw [zI_le (by omega) (by omega) (by omega) (by omega)]; omega)
      · refine sw_aload_n 25 dX5_fill_24 rfl rfl rfl ?_
        refine sw_getR 28 dX5_fill_25 rfl gf_RX5_9 (fun _ _ _ _ => rfl) (by first | assumption | exact ⟨by decide, rfl⟩) (by first | assumption | rfl) ?_
        refine sw_iload_n 29 dX5_fill_28 rfl rfl rfl ?_
        refine sw_iconst (v := zI 0) 30 dX5_fill_29 rfl (by decide) ?_
        refine sw_zast 31 (by first | exact Or.inl rfl | exact Or.inr rfl | assumption) dX5_fill_30 rfl (by first | assumption | exact ⟨by decide, rfl⟩) (by assumption) ?_
        refine sw_iinc (v := zI 1) (lc' := [(0, _), (1, _), (2, _), (3, _)]) 34 dX5_fill_31 rfl (by decide) rfl rfl rfl ?_
        refine sw_goto 16 dX5_fill_34 (by decide) ?_
        rw [zI_clampN (by omega), mH_upf S0, zI_add]
        have e9 : (va_up (fun r => if r < j then zI 0 else h.1 ra r) j (zI 0)) = fun r => if r < j + 1 then zI 0 else h.1 ra r := by
          funext z
          by_cases f1 : z = j
          · simp [va_up, f1]
          · have f2 : (z < j + 1) = (z < j) := by apply propext; omega
            simp [va_up, f1, f2]
        rw [e9]
        exact ih (j + 1) (by omega)
  refine sw_aload_n 1 dX5_fill_0 rfl rfl rfl ?_
  refine sw_iload_n 2 dX5_fill_1 rfl rfl rfl ?_
  refine sw_iconst (v := zI 3) 3 dX5_fill_2 rfl (by decide) ?_
  refine sw_invSI 6 dX5_fill_3 rfl lk_RX5_23 (c_maxZ (by omega) (by omega) (by omega) (by omega)) rfl rfl (Nat.le_of_ble_eq_true rfl) (fun r3 h3 hq3 => ?_)
  obtain ⟨rfl, rfl⟩ := hq3
  refine sw_bipush (v := zI 97) 8 dX5_fill_6 rfl (by decide) ?_
  refine sw_invSI 11 dX5_fill_8 rfl lk_RX5_29 (c_minZ (by omega) (by omega) (by omega) (by omega)) rfl rfl (Nat.le_of_ble_eq_true rfl) (fun r8 h8 hq8 => ?_)
  obtain ⟨rfl, rfl⟩ := hq8
  refine sw_putI 14 dX5_fill_11 rfl pf_RX5_19 rfl (by first | assumption | exact ⟨by decide, rfl⟩) ?_
  rw [show min (max (q : Int) 3) 97 = (q : Nat) by omega, mH_newq (q' := 0) S0 hk0]
  refine sw_iconst (v := zI 0) 15 dX5_fill_14 rfl (by decide) ?_
  refine sw_istore_n (lc' := [(0, _), (1, _), (2, _), (3, _)]) 16 dX5_fill_15 rfl rfl (by decide) rfl ?_
  have e9 := clear q 0 (by omega)
  simp only [Nat.not_lt_zero, if_false] at e9
  exact e9
end sw_mod
