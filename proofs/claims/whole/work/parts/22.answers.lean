/-! ANSWERS (in the class's world): 31, above 32, below 33, group 34, newNumbers 35, split 36 -/
def agB (lo hi : Nat) (h h2 : sw_H) : Prop := ∀ a, a < lo ∨ hi ≤ a → h2.1 a = h.1 a ∧ h2.2 a = h.2 a
theorem agB_rf {lo hi : Nat} {h : sw_H} : agB lo hi h h := fun _ _ => ⟨rfl, rfl⟩
theorem agB_tr {lo hi : Nat} {h h2 h3 : sw_H} (a : agB lo hi h h2) (b : agB lo hi h2 h3) : agB lo hi h h3 := fun x hx => ⟨((b x hx).1).trans (a x hx).1, ((b x hx).2).trans (a x hx).2⟩
theorem agB_pI {lo hi a : Nat} {h : sw_H} {f : Nat → Int32} (h1 : lo ≤ a) (h2 : a < hi) : agB lo hi h (sw_pI h a f) := fun x hx => ⟨sw_pI_ne (by omega), rfl⟩
theorem agB_pL {lo hi a : Nat} {h : sw_H} {f : Nat → Int64} (h1 : lo ≤ a) (h2 : a < hi) : agB lo hi h (sw_pL h a f) := fun x hx => ⟨rfl, sw_pL_ne (by omega)⟩
theorem agB_wI {lo hi a k : Nat} {h : sw_H} {x : Int32} (h1 : lo ≤ a) (h2 : a < hi) : agB lo hi h (sw_wI h a k x) := fun x hx => ⟨sw_wI_ne (by omega), rfl⟩
theorem agB_wL {lo hi a k : Nat} {h : sw_H} {x : Int64} (h1 : lo ≤ a) (h2 : a < hi) : agB lo hi h (sw_wL h a k x) := fun x hx => ⟨rfl, sw_wL_ne (by omega)⟩
theorem agB_wide {lo hi lo' hi' : Nat} {h h2 : sw_H} (a : agB lo hi h h2) (h1 : lo' ≤ lo) (h3 : hi ≤ hi') : agB lo' hi' h h2 := fun x hx => a x (by omega)
theorem agB_of {lo hi : Nat} {h h2 : sw_H} (a : agI lo hi h h2) : agB lo hi h h2 := fun x hx => ⟨a.1 x hx, by rw [a.2]⟩
theorem agB_B {h h2 : sw_H} {lo hi n : Nat} {p bx : Nat → Int} (A : agB lo hi h h2) (hlo : 4 < lo) (V : atB h 2 3 4 n p bx) : atB h2 2 3 4 n p bx := by
  obtain ⟨b1, b2, b3, b4⟩ := V
  exact ⟨by rw [(A 2 (by omega)).1]; exact b1, b2, fun i hi => by rw [(A 3 (by omega)).1]; exact b3 i hi, fun i hi => by rw [(A 4 (by omega)).1]; exact b4 i hi⟩
/-- a table: how many; above, below, group -/
abbrev TbZ : Type := Nat × (Nat → Int) × (Nat → Int) × (Nat → Int)
def kLt (a b a' b' : Int) : Prop := b < b' ∨ (b = b' ∧ a < a')
theorem kLt_dec (a b a' b' : Int) : kLt a b a' b' ∨ ¬ kLt a b a' b' := by unfold kLt; omega
def kLtB (a b a' b' : Int) : Bool := decide (b < b' ∨ (b = b' ∧ a < a'))
theorem kLtB_iff {a b a' b' : Int} : kLtB a b a' b' = true ↔ kLt a b a' b' := by unfold kLtB kLt; simp
def srtZ (T : TbZ) : Prop := ∀ i j, i < j → j < T.1 → kLt (T.2.1 i) (T.2.2.1 i) (T.2.1 j) (T.2.2.1 j)
def plT (T : TbZ) (a b : Int) : Nat → Nat
  | 0 => 0
  | i + 1 => plT T a b i + if kLtB (T.2.1 i) (T.2.2.1 i) a b then 1 else 0
theorem plT_le (T : TbZ) (a b : Int) : ∀ n, plT T a b n ≤ n
  | 0 => Nat.le_refl 0
  | n + 1 => by have := plT_le T a b n; unfold plT; split <;> omega
theorem plT_all (T : TbZ) (a b : Int) : ∀ n, (∀ i, i < n → kLtB (T.2.1 i) (T.2.2.1 i) a b = true) → plT T a b n = n
  | 0, _ => rfl
  | n + 1, h => by unfold plT; rw [plT_all T a b n (fun i hi => h i (by omega)), h n (by omega)]; rfl
/-- a place that parts the table is the place -/
theorem plT_at (T : TbZ) (a b : Int) (t : Nat) (h1 : ∀ i, i < t → kLtB (T.2.1 i) (T.2.2.1 i) a b = true) (h2 : ∀ i, t ≤ i → i < T.1 → kLtB (T.2.1 i) (T.2.2.1 i) a b = false) : ∀ n, t ≤ n → n ≤ T.1 → plT T a b n = t := by
  intro n
  induction n with
  | zero => intro ht _; have : t = 0 := by omega
            subst this; rfl
  | succ n ih =>
    intro ht hn
    by_cases e : t = n + 1
    · subst e; exact plT_all T a b _ h1
    · unfold plT
      rw [ih (by omega) (by omega), h2 n (by omega) (by omega)]; rfl
theorem plT_in {T : TbZ} {a b : Int} (hs : srtZ T) : ∀ n, n ≤ T.1 → ∀ i, i < n → (kLtB (T.2.1 i) (T.2.2.1 i) a b = true ↔ i < plT T a b n) := by
  intro n
  induction n with
  | zero => intro _ i hi; omega
  | succ n ih =>
    intro hn i hi
    have ih := ih (by omega)
    have hle := plT_le T a b n
    have key : ∀ i j, i < j → j < T.1 → kLtB (T.2.1 j) (T.2.2.1 j) a b = true → kLtB (T.2.1 i) (T.2.2.1 i) a b = true := by
      intro i j hij hj h
      rw [kLtB_iff] at h ⊢
      have := hs i j hij hj
      unfold kLt at *
      omega
    unfold plT
    cases hc : kLtB (T.2.1 n) (T.2.2.1 n) a b with
    | true =>
      have hall : plT T a b n = n := plT_all T a b n (fun j hj => key j n hj (by omega) hc)
      rw [hall]
      simp only [if_true]
      refine ⟨fun _ => hi, fun _ => ?_⟩
      by_cases e : i = n
      · subst e; exact hc
      · exact key i n (by omega) (by omega) hc
    | false =>
      simp only [Bool.false_eq_true, if_false, Nat.add_zero]
      by_cases e : i = n
      · subst e; rw [hc]; exact ⟨fun z => (by cases z), fun z => (by omega)⟩
      · exact ih i (by omega)
def isAtT (T : TbZ) (t : Nat) (a b : Int) : Prop := t < T.1 ∧ T.2.1 t = a ∧ T.2.2.1 t = b
def okT (T : TbZ) : Prop := T.1 ≤ 264 ∧ ∀ i, i < T.1 → (T.2.1 i).natAbs < 4611686018427387904 ∧ 0 < T.2.2.1 i ∧ T.2.2.1 i < 4611686018427387904
def tblA (h : sw_H) (T : TbZ) : Prop := h.1 31 5 = zI T.1 ∧ okT T ∧ ∀ i, i < T.1 → h.2 32 i = zL (T.2.1 i) ∧ h.2 33 i = zL (T.2.2.1 i) ∧ h.1 34 i = zI (T.2.2.2 i)
section sw_ans
variable {X : sw_X} {l : Launch} {d : Nat} {h : sw_H} {T : TbZ}
theorem c_A_has (V : tblA h T) {i : Int} (i1 : -2147483648 ≤ i) (i2 : i < 2147483648) : sw_ct wA X l d mX0_has [.ref 31, .int (zI i)] h (sw_qI wA X fun r h2 => h2 = h ∧ r = zI (if 0 ≤ i ∧ i < T.1 then 1 else 0)) := by
  have hN := V.2.1.1
  refine sw_ct_of (by decide +kernel) (Nat.le_of_ble_eq_true rfl) rfl ?_
  refine sw_iload_n 1 dX0_has_0 rfl rfl rfl ?_
  refine sw_if_lt 16 4 dX0_has_1 (by decide) rfl (fun c1 => ?_) (fun c1 => ?_)
  · refine sw_iconst (v := zI 0) 17 dX0_has_16 rfl (by decide) ?_
    exact sw_zret (by first | exact Or.inl rfl | exact Or.inr rfl | assumption) dX0_has_17 rfl (⟨rfl, by
  rw [z0, zI_lt (by omega) (by omega) (by omega) (by omega)] at c1
  try rw [zI_le (by omega) (by omega) (by omega) (by omega)] at c9
  first | rw [if_pos (by omega)] | rw [if_neg (by omega)]⟩)
  · refine sw_iload_n 5 dX0_has_4 rfl rfl rfl ?_
    refine sw_aload_n 6 dX0_has_5 rfl rfl rfl ?_
    refine sw_getI 9 dX0_has_6 rfl gf_RX0_32 rfl ⟨by decide, rfl⟩ ?_
    rw [V.1]
    refine sw_icmp_ge 16 12 dX0_has_9 (by decide) rfl (fun c9 => ?_) (fun c9 => ?_)
    · refine sw_iconst (v := zI 0) 17 dX0_has_16 rfl (by decide) ?_
      exact sw_zret (by first | exact Or.inl rfl | exact Or.inr rfl | assumption) dX0_has_17 rfl (⟨rfl, by
  rw [z0, zI_lt (by omega) (by omega) (by omega) (by omega)] at c1
  try rw [zI_le (by omega) (by omega) (by omega) (by omega)] at c9
  first | rw [if_pos (by omega)] | rw [if_neg (by omega)]⟩)
    · refine sw_iconst (v := zI 1) 13 dX0_has_12 rfl (by decide) ?_
      refine sw_goto 17 dX0_has_13 (by decide) ?_
      exact sw_zret (by first | exact Or.inl rfl | exact Or.inr rfl | assumption) dX0_has_17 rfl (⟨rfl, by
  rw [z0, zI_lt (by omega) (by omega) (by omega) (by omega)] at c1
  try rw [zI_le (by omega) (by omega) (by omega) (by omega)] at c9
  first | rw [if_pos (by omega)] | rw [if_neg (by omega)]⟩)
def vOID : Int := -9223372036854775808
theorem c_A_told (V : tblA h T) {i : Int} (i1 : -2147483648 ≤ i) (i2 : i < 2147483648) {k : Int} (hk : k = 0 ∨ k = 1) : sw_ct wA X l (d + 1) mX0_told [.ref 31, .int (zI i), .int (zI k)] h (sw_qL wA X fun r h2 => h2 = h ∧ r = zL (if 0 ≤ i ∧ i < T.1 then (if k = 0 then T.2.1 i.toNat else T.2.2.1 i.toNat) else vOID)) := by
  have hN := V.2.1.1
  refine sw_ct_of (by decide +kernel) (Nat.le_of_ble_eq_true rfl) rfl ?_
  refine sw_aload_n 1 dX0_told_0 rfl rfl rfl ?_
  refine sw_iload_n 2 dX0_told_1 rfl rfl rfl ?_
  refine sw_invVI 5 dX0_told_2 rfl lk_RX0_36 (c_A_has V i1 i2) ⟨by decide, rfl⟩ rfl rfl (Nat.le_of_ble_eq_true rfl) (fun r2 h2 hq2 => ?_)
  obtain ⟨rfl, rfl⟩ := hq2
  refine sw_if_ne 12 8 dX0_told_5 (by decide) rfl (fun c5 => ?_) (fun c5 => ?_)
  · have hc : 0 ≤ i ∧ i < T.1 := by
      by_cases hc : 0 ≤ i ∧ i < T.1
      · exact hc
      · rw [if_neg hc] at c5; exact absurd rfl c5
    have hin : vp_in (zI i) 264 := zI_in hc.1 (by omega) (by omega)
    refine sw_iload_n 13 dX0_told_12 rfl rfl rfl ?_
    refine sw_if_ne 25 16 dX0_told_13 (by decide) rfl (fun c13 => ?_) (fun c13 => ?_)
    · rw [z0, zI_eq (by omega) (by omega) (by omega) (by omega)] at c13
      refine sw_aload_n 26 dX0_told_25 rfl rfl rfl ?_
      refine sw_getR (b := 33) 29 dX0_told_26 rfl gf_RX0_15 (fun _ _ _ _ => rfl) ⟨by decide, rfl⟩ rfl ?_
      refine sw_iload_n 30 dX0_told_29 rfl rfl rfl ?_
      refine sw_lald 31 dX0_told_30 rfl ⟨by decide, rfl⟩ (by assumption) ?_
      exact sw_lret dX0_told_31 rfl (⟨rfl, by
  rw [if_pos hc, zI_clamp (by omega) (by omega)]
  have hv := V.2.2 i.toNat (by omega)
  first
  | (rw [if_pos (by omega)]; exact hv.1)
  | (rw [if_neg (by omega)]; exact hv.2.1)⟩)
    · rw [z0, zI_eq (by omega) (by omega) (by omega) (by omega)] at c13
      refine sw_aload_n 17 dX0_told_16 rfl rfl rfl ?_
      refine sw_getR (b := 32) 20 dX0_told_17 rfl gf_RX0_9 (fun _ _ _ _ => rfl) ⟨by decide, rfl⟩ rfl ?_
      refine sw_iload_n 21 dX0_told_20 rfl rfl rfl ?_
      refine sw_lald 22 dX0_told_21 rfl ⟨by decide, rfl⟩ (by assumption) ?_
      refine sw_goto 31 dX0_told_22 (by decide) ?_
      exact sw_lret dX0_told_31 rfl (⟨rfl, by
  rw [if_pos hc, zI_clamp (by omega) (by omega)]
  have hv := V.2.2 i.toNat (by omega)
  first
  | (rw [if_pos (by omega)]; exact hv.1)
  | (rw [if_neg (by omega)]; exact hv.2.1)⟩)
  · have hc : ¬ (0 ≤ i ∧ i < T.1) := by
      by_cases hc : 0 ≤ i ∧ i < T.1
      · rw [if_pos hc] at c5; exact absurd c5 (by decide)
      · exact hc
    refine sw_ldc2 11 dX0_told_8 rfl (show Cond.constantLong RX0 40 (zL (-9223372036854775808)) ∈ sw_big from kk_RX0_40) ?_
    exact sw_lret dX0_told_11 rfl (⟨rfl, by rw [if_neg hc]; rfl⟩)
theorem c_A_placeFor (V : tblA h T) (hs : srtZ T) {a b : Int} (a1 : a.natAbs < 4611686018427387904) (b1 : 0 ≤ b) (b2 : b < 4611686018427387904) : sw_ct wA X l d mX0_placeFor [.ref 31, .long (zL a), .long (zL b)] h (sw_qI wA X fun r h2 => h2 = h ∧ r = zI (plT T a b T.1)) := by
  have hN := V.2.1.1
  refine sw_ct_of (by decide +kernel) (Nat.le_of_ble_eq_true rfl) rfl ?_
  have h2z : ¬ zI 2 = 0 := by decide
  have loop : ∀ (c j lo hi : Nat), j + c = 264 → lo ≤ hi → hi ≤ T.1 → hi - lo ≤ c → (∀ i, i < lo → kLtB (T.2.1 i) (T.2.2.1 i) a b = true) → (∀ i, hi ≤ i → i < T.1 → kLtB (T.2.1 i) (T.2.2.1 i) a b = false) → sw_wp wA X l d mX0_placeFor (sw_qI wA X fun r h2 => h2 = h ∧ r = zI (plT T a b T.1)) 12 [(0, .ref 31), (1, .long (zL a)), (3, .long (zL b)), (5, .int (zI lo)), (6, .int (zI hi)), (7, .int (zI j))] [] h := by
    intro c
    induction c with
    | zero =>
      intro j lo hi hj hlh hhi hm L1 L2
      have : j = 264 := by omega
      subst this
      have e9 := plT_at T a b lo L1 (fun i h1 h2 => L2 i (by omega) h2) T.1 (by omega) (Nat.le_refl _)
      refine sw_iload 14 dX0_placeFor_12 rfl rfl ?_
      refine sw_sipush (v := zI 264) 17 dX0_placeFor_14 rfl (by decide) ?_
      refine sw_icmp_ge 91 20 dX0_placeFor_17 (by decide) rfl (fun c17 => ?_) (fun c17 => ?_)
      · refine sw_iload 93 dX0_placeFor_91 rfl rfl ?_
        exact sw_iret dX0_placeFor_93 rfl (⟨rfl, by rw [e9]⟩)
      · exact absurd (Int32.le_refl _) c17
    | succ c ih =>
      intro j lo hi hj hlh hhi hm L1 L2
      by_cases hlt : lo < hi
      · have hmid : zI (lo : Nat) + zI (hi : Nat) = zI ((lo + hi : Nat) : Int) := by rw [zI_add]; rfl
        have hdiv : zI ((lo + hi : Nat) : Int) / zI 2 = zI (((lo + hi) / 2 : Nat) : Int) := by rw [zI_div (by omega) (by omega) (by omega) (by omega), Int.tdiv_eq_ediv_of_nonneg (by omega)]; rfl
        have hmb : lo ≤ (lo + hi) / 2 ∧ (lo + hi) / 2 < hi := by omega
        generalize (lo + hi) / 2 = mid at hdiv hmb
        have hin : vp_in (zI mid) 264 := zI_inN (by omega) (by omega)
        have hv := V.2.2 mid (by omega)
        have hb := V.2.1.2 mid (by omega)
        have hkey : ∀ i j, i < j → j < T.1 → kLt (T.2.1 i) (T.2.2.1 i) (T.2.1 j) (T.2.2.1 j) := hs
        have up : kLt (T.2.1 mid) (T.2.2.1 mid) a b → ∀ i, i < mid + 1 → kLtB (T.2.1 i) (T.2.2.1 i) a b = true := by
          intro hk i hi9
          rw [kLtB_iff]
          by_cases e : i = mid
          · subst e; exact hk
          · have := hkey i mid (by omega) (by omega); unfold kLt at *; omega
        have dn : ¬ kLt (T.2.1 mid) (T.2.2.1 mid) a b → ∀ i, mid ≤ i → i < T.1 → kLtB (T.2.1 i) (T.2.2.1 i) a b = false := by
          intro hk i h1 h2
          cases hc : kLtB (T.2.1 i) (T.2.2.1 i) a b with
          | false => rfl
          | true =>
            rw [kLtB_iff] at hc
            exfalso; apply hk
            by_cases e : i = mid
            · subst e; exact hc
            · have := hkey mid i (by omega) (by omega); unfold kLt at *; omega
        refine sw_iload 14 dX0_placeFor_12 rfl rfl ?_
        refine sw_sipush (v := zI 264) 17 dX0_placeFor_14 rfl (by decide) ?_
        refine sw_icmp_ge 91 20 dX0_placeFor_17 (by decide) rfl (fun c17 => ?_) (fun c17 => ?_)
        · exact absurd c17 (by rw [zI_le (by omega) (by omega) (by omega) (by omega)]; omega)
        · refine sw_iload 22 dX0_placeFor_20 rfl rfl ?_
          refine sw_iload 24 dX0_placeFor_22 rfl rfl ?_
          refine sw_icmp_ge 91 27 dX0_placeFor_24 (by decide) rfl (fun c24 => ?_) (fun c24 => ?_)
          · exact absurd c24 (by rw [zI_le (by omega) (by omega) (by omega) (by omega)]; omega)
          · refine sw_iload 29 dX0_placeFor_27 rfl rfl ?_
            refine sw_iload 31 dX0_placeFor_29 rfl rfl ?_
            refine sw_iadd 32 dX0_placeFor_31 rfl ?_
            rw [hmid]
            refine sw_iconst (v := zI 2) 33 dX0_placeFor_32 rfl (by decide) ?_
            refine sw_idiv 34 dX0_placeFor_33 rfl (by first | assumption | decide) ?_
            rw [hdiv]
            refine sw_istore (lc' := [(0, _), (1, _), (3, _), (5, _), (6, _), (7, _), (8, _)]) 36 dX0_placeFor_34 rfl (by decide) rfl ?_
            refine sw_aload_n 37 dX0_placeFor_36 rfl rfl rfl ?_
            refine sw_getR (b := 33) 40 dX0_placeFor_37 rfl gf_RX0_15 (fun _ _ _ _ => rfl) ⟨by decide, rfl⟩ rfl ?_
            refine sw_iload 42 dX0_placeFor_40 rfl rfl ?_
            refine sw_lald 43 dX0_placeFor_42 rfl ⟨by decide, rfl⟩ (by assumption) ?_
            rw [zI_clampN (by omega), hv.2.1]
            refine sw_lload_n 44 dX0_placeFor_43 rfl rfl rfl ?_
            refine sw_lcmp 45 dX0_placeFor_44 rfl ?_
            refine sw_if_lt 72 48 dX0_placeFor_45 (by decide) rfl (fun c45 => ?_) (fun c45 => ?_)
            · rw [lc_lt, zL_lt (by omega) (by omega) (by omega) (by omega)] at c45
              have hk : kLt (T.2.1 mid) (T.2.2.1 mid) a b := by unfold kLt; omega
              refine sw_iload 74 dX0_placeFor_72 rfl rfl ?_
              refine sw_iconst (v := zI 1) 75 dX0_placeFor_74 rfl (by decide) ?_
              refine sw_iadd 76 dX0_placeFor_75 rfl ?_
              rw [zI_add, show ((mid : Int) + 1) = ((mid + 1 : Nat) : Int) from rfl]
              refine sw_istore (lc' := [(0, _), (1, _), (3, _), (5, _), (6, _), (7, _), (8, _)]) 78 dX0_placeFor_76 rfl (by decide) rfl ?_
              refine sw_goto 85 dX0_placeFor_78 (by decide) ?_
              refine sw_iinc (v := zI 1) (lc' := [(0, _), (1, _), (3, _), (5, _), (6, _), (7, _), (8, _)]) 88 dX0_placeFor_85 rfl (by decide) rfl rfl rfl ?_
              refine sw_goto 12 dX0_placeFor_88 (by decide) ?_
              rw [zI_add]
              exact sw_wp_sub (by simp) (ih (j + 1) (mid + 1) hi (by omega) (by omega) hhi (by omega) (up hk) L2)
            · rw [lc_lt, zL_lt (by omega) (by omega) (by omega) (by omega)] at c45
              refine sw_aload_n 49 dX0_placeFor_48 rfl rfl rfl ?_
              refine sw_getR (b := 33) 52 dX0_placeFor_49 rfl gf_RX0_15 (fun _ _ _ _ => rfl) ⟨by decide, rfl⟩ rfl ?_
              refine sw_iload 54 dX0_placeFor_52 rfl rfl ?_
              refine sw_lald 55 dX0_placeFor_54 rfl ⟨by decide, rfl⟩ (by assumption) ?_
              rw [zI_clampN (by omega), hv.2.1]
              refine sw_lload_n 56 dX0_placeFor_55 rfl rfl rfl ?_
              refine sw_lcmp 57 dX0_placeFor_56 rfl ?_
              refine sw_if_ne 81 60 dX0_placeFor_57 (by decide) rfl (fun c57 => ?_) (fun c57 => ?_)
              · rw [lc_eq, zL_eq (by omega) (by omega) (by omega) (by omega)] at c57
                have hk : ¬ kLt (T.2.1 mid) (T.2.2.1 mid) a b := by unfold kLt; omega
                refine sw_iload 83 dX0_placeFor_81 rfl rfl ?_
                refine sw_istore (lc' := [(0, _), (1, _), (3, _), (5, _), (6, _), (7, _), (8, _)]) 85 dX0_placeFor_83 rfl (by decide) rfl ?_
                refine sw_iinc (v := zI 1) (lc' := [(0, _), (1, _), (3, _), (5, _), (6, _), (7, _), (8, _)]) 88 dX0_placeFor_85 rfl (by decide) rfl rfl rfl ?_
                refine sw_goto 12 dX0_placeFor_88 (by decide) ?_
                rw [zI_add]
                exact sw_wp_sub (by simp) (ih (j + 1) lo mid (by omega) (by omega) (by omega) (by omega) L1 (dn hk))
              · rw [lc_eq, zL_eq (by omega) (by omega) (by omega) (by omega)] at c57
                refine sw_aload_n 61 dX0_placeFor_60 rfl rfl rfl ?_
                refine sw_getR (b := 32) 64 dX0_placeFor_61 rfl gf_RX0_9 (fun _ _ _ _ => rfl) ⟨by decide, rfl⟩ rfl ?_
                refine sw_iload 66 dX0_placeFor_64 rfl rfl ?_
                refine sw_lald 67 dX0_placeFor_66 rfl ⟨by decide, rfl⟩ (by assumption) ?_
                rw [zI_clampN (by omega), hv.1]
                refine sw_lload_n 68 dX0_placeFor_67 rfl rfl rfl ?_
                refine sw_lcmp 69 dX0_placeFor_68 rfl ?_
                refine sw_if_ge 81 72 dX0_placeFor_69 (by decide) rfl (fun c69 => ?_) (fun c69 => ?_)
                · rw [lc_ge, zL_le (by omega) (by omega) (by omega) (by omega)] at c69
                  have hk : ¬ kLt (T.2.1 mid) (T.2.2.1 mid) a b := by unfold kLt; omega
                  refine sw_iload 83 dX0_placeFor_81 rfl rfl ?_
                  refine sw_istore (lc' := [(0, _), (1, _), (3, _), (5, _), (6, _), (7, _), (8, _)]) 85 dX0_placeFor_83 rfl (by decide) rfl ?_
                  refine sw_iinc (v := zI 1) (lc' := [(0, _), (1, _), (3, _), (5, _), (6, _), (7, _), (8, _)]) 88 dX0_placeFor_85 rfl (by decide) rfl rfl rfl ?_
                  refine sw_goto 12 dX0_placeFor_88 (by decide) ?_
                  rw [zI_add]
                  exact sw_wp_sub (by simp) (ih (j + 1) lo mid (by omega) (by omega) (by omega) (by omega) L1 (dn hk))
                · rw [lc_ge, zL_le (by omega) (by omega) (by omega) (by omega)] at c69
                  have hk : kLt (T.2.1 mid) (T.2.2.1 mid) a b := by unfold kLt; omega
                  refine sw_iload 74 dX0_placeFor_72 rfl rfl ?_
                  refine sw_iconst (v := zI 1) 75 dX0_placeFor_74 rfl (by decide) ?_
                  refine sw_iadd 76 dX0_placeFor_75 rfl ?_
                  rw [zI_add, show ((mid : Int) + 1) = ((mid + 1 : Nat) : Int) from rfl]
                  refine sw_istore (lc' := [(0, _), (1, _), (3, _), (5, _), (6, _), (7, _), (8, _)]) 78 dX0_placeFor_76 rfl (by decide) rfl ?_
                  refine sw_goto 85 dX0_placeFor_78 (by decide) ?_
                  refine sw_iinc (v := zI 1) (lc' := [(0, _), (1, _), (3, _), (5, _), (6, _), (7, _), (8, _)]) 88 dX0_placeFor_85 rfl (by decide) rfl rfl rfl ?_
                  refine sw_goto 12 dX0_placeFor_88 (by decide) ?_
                  rw [zI_add]
                  exact sw_wp_sub (by simp) (ih (j + 1) (mid + 1) hi (by omega) (by omega) hhi (by omega) (up hk) L2)
      · have e9 := plT_at T a b lo L1 (fun i h1 h2 => L2 i (by omega) h2) T.1 (by omega) (Nat.le_refl _)
        refine sw_iload 14 dX0_placeFor_12 rfl rfl ?_
        refine sw_sipush (v := zI 264) 17 dX0_placeFor_14 rfl (by decide) ?_
        refine sw_icmp_ge 91 20 dX0_placeFor_17 (by decide) rfl (fun c17 => ?_) (fun c17 => ?_)
        · exact absurd c17 (by rw [zI_le (by omega) (by omega) (by omega) (by omega)]; omega)
        · refine sw_iload 22 dX0_placeFor_20 rfl rfl ?_
          refine sw_iload 24 dX0_placeFor_22 rfl rfl ?_
          refine sw_icmp_ge 91 27 dX0_placeFor_24 (by decide) rfl (fun c24 => ?_) (fun c24 => ?_)
          · refine sw_iload 93 dX0_placeFor_91 rfl rfl ?_
            exact sw_iret dX0_placeFor_93 rfl (⟨rfl, by rw [e9]⟩)
          · exact absurd (by rw [zI_le (by omega) (by omega) (by omega) (by omega)]; omega) c24
  refine sw_iconst (v := zI 0) 1 dX0_placeFor_0 rfl (by decide) ?_
  refine sw_istore (lc' := [(0, _), (1, _), (3, _), (5, _)]) 3 dX0_placeFor_1 rfl (by decide) rfl ?_
  refine sw_aload_n 4 dX0_placeFor_3 rfl rfl rfl ?_
  refine sw_getI 7 dX0_placeFor_4 rfl gf_RX0_32 rfl ⟨by decide, rfl⟩ ?_
  rw [V.1]
  refine sw_istore (lc' := [(0, _), (1, _), (3, _), (5, _), (6, _)]) 9 dX0_placeFor_7 rfl (by decide) rfl ?_
  refine sw_iconst (v := zI 0) 10 dX0_placeFor_9 rfl (by decide) ?_
  refine sw_istore (lc' := [(0, _), (1, _), (3, _), (5, _), (6, _), (7, _)]) 12 dX0_placeFor_10 rfl (by decide) rfl ?_
  exact loop 264 0 0 T.1 (by omega) (by omega) (Nat.le_refl _) (by omega) (fun i hi => by omega) (fun i h1 h2 => by omega)
theorem c_A_isAt (V : tblA h T) {t : Nat} (ht : t ≤ 264) {a b : Int} (a1 : a.natAbs < 4611686018427387904) (b1 : 0 ≤ b) (b2 : b < 4611686018427387904) : sw_ct wA X l d mX0_isAt [.ref 31, .int (zI t), .long (zL a), .long (zL b)] h (sw_qI wA X fun r h2 => h2 = h ∧ (r = zI 1 ∧ isAtT T t a b ∨ r = zI 0 ∧ ¬ isAtT T t a b)) := by
  have hN := V.2.1.1
  refine sw_ct_of (by decide +kernel) (Nat.le_of_ble_eq_true rfl) rfl ?_
  refine sw_iload_n 1 dX0_isAt_0 rfl rfl rfl ?_
  refine sw_aload_n 2 dX0_isAt_1 rfl rfl rfl ?_
  refine sw_getI 5 dX0_isAt_2 rfl gf_RX0_32 rfl ⟨by decide, rfl⟩ ?_
  rw [V.1]
  refine sw_icmp_ge 35 8 dX0_isAt_5 (by decide) rfl (fun c5 => ?_) (fun c5 => ?_)
  · refine sw_iconst (v := zI 0) 36 dX0_isAt_35 rfl (by decide) ?_
    exact sw_zret (by first | exact Or.inl rfl | exact Or.inr rfl | assumption) dX0_isAt_36 rfl (⟨rfl, Or.inr ⟨rfl, by
  rw [zI_le (by omega) (by omega) (by omega) (by omega)] at c5
  exact fun q => by have := q.1; omega⟩⟩)
  · rw [zI_le (by omega) (by omega) (by omega) (by omega)] at c5
    have hin : vp_in (zI t) 264 := zI_inN (by omega) (by omega)
    have hv := V.2.2 t (by omega)
    have hb := V.2.1.2 t (by omega)
    refine sw_aload_n 9 dX0_isAt_8 rfl rfl rfl ?_
    refine sw_getR (b := 32) 12 dX0_isAt_9 rfl gf_RX0_9 (fun _ _ _ _ => rfl) ⟨by decide, rfl⟩ rfl ?_
    refine sw_iload_n 13 dX0_isAt_12 rfl rfl rfl ?_
    refine sw_lald 14 dX0_isAt_13 rfl ⟨by decide, rfl⟩ (by assumption) ?_
    rw [zI_clampN (by omega), hv.1]
    refine sw_lload_n 15 dX0_isAt_14 rfl rfl rfl ?_
    refine sw_lcmp 16 dX0_isAt_15 rfl ?_
    refine sw_if_ne 35 19 dX0_isAt_16 (by decide) rfl (fun c16 => ?_) (fun c16 => ?_)
    · refine sw_iconst (v := zI 0) 36 dX0_isAt_35 rfl (by decide) ?_
      exact sw_zret (by first | exact Or.inl rfl | exact Or.inr rfl | assumption) dX0_isAt_36 rfl (⟨rfl, Or.inr ⟨rfl, by
  rw [lc_eq, zL_eq (by omega) (by omega) (by omega) (by omega)] at c16
  exact fun q => c16 q.2.1⟩⟩)
    · rw [lc_eq, zL_eq (by omega) (by omega) (by omega) (by omega)] at c16
      refine sw_aload_n 20 dX0_isAt_19 rfl rfl rfl ?_
      refine sw_getR (b := 33) 23 dX0_isAt_20 rfl gf_RX0_15 (fun _ _ _ _ => rfl) ⟨by decide, rfl⟩ rfl ?_
      refine sw_iload_n 24 dX0_isAt_23 rfl rfl rfl ?_
      refine sw_lald 25 dX0_isAt_24 rfl ⟨by decide, rfl⟩ (by assumption) ?_
      rw [zI_clampN (by omega), hv.2.1]
      refine sw_lload 27 dX0_isAt_25 rfl rfl ?_
      refine sw_lcmp 28 dX0_isAt_27 rfl ?_
      refine sw_if_ne 35 31 dX0_isAt_28 (by decide) rfl (fun c28 => ?_) (fun c28 => ?_)
      · refine sw_iconst (v := zI 0) 36 dX0_isAt_35 rfl (by decide) ?_
        exact sw_zret (by first | exact Or.inl rfl | exact Or.inr rfl | assumption) dX0_isAt_36 rfl (⟨rfl, Or.inr ⟨rfl, by
  rw [lc_eq, zL_eq (by omega) (by omega) (by omega) (by omega)] at c28
  exact fun q => c28 q.2.2⟩⟩)
      · refine sw_iconst (v := zI 1) 32 dX0_isAt_31 rfl (by decide) ?_
        refine sw_goto 36 dX0_isAt_32 (by decide) ?_
        exact sw_zret (by first | exact Or.inl rfl | exact Or.inr rfl | assumption) dX0_isAt_36 rfl (⟨rfl, Or.inl ⟨rfl, by
  rw [lc_eq, zL_eq (by omega) (by omega) (by omega) (by omega)] at c28
  exact ⟨by omega, c16, c28⟩⟩⟩)
end sw_ans
