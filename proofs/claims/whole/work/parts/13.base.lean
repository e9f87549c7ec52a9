/-! BASE: primes, boxes, size -/
theorem z0 : (0 : Int32) = zI 0 := rfl
theorem z1 : (1 : Int32) = zI 1 := rfl
theorem zL0 : (0 : Int64) = zL 0 := rfl
/-- the first place from i on (m of them) that holds v; else -1 -/
def fndZ (p : Nat → Int) (v : Int) : Nat → Nat → Int
  | 0, _ => -1
  | m + 1, i => if p i = v then (i : Int) else fndZ p v m (i + 1)
theorem fndZ_range (p : Nat → Int) (v : Int) : ∀ (m i : Nat), -1 ≤ fndZ p v m i ∧ fndZ p v m i < i + m ∨ fndZ p v m i = -1
  | 0, i => Or.inr rfl
  | m + 1, i => by
    unfold fndZ
    by_cases e : p i = v
    · rw [if_pos e]; left; omega
    · rw [if_neg e]
      rcases fndZ_range p v m (i + 1) with h | h
      · left; omega
      · right; exact h
/-- the place of v among the rising first n -/
def insAt (p : Nat → Int) (v : Int) : Nat → Nat
  | 0 => 0
  | i + 1 => if v < p i then insAt p v i else i + 1
theorem insAt_le (p : Nat → Int) (v : Int) : ∀ n, insAt p v n ≤ n
  | 0 => Nat.le_refl 0
  | i + 1 => by
    unfold insAt
    by_cases e : v < p i
    · rw [if_pos e]; exact Nat.le_succ_of_le (insAt_le p v i)
    · rw [if_neg e]; exact Nat.le_refl _
def prodZ (p : Nat → Int) : Nat → Int
  | 0 => 1
  | i + 1 => prodZ p i * p i
def shR {α : Type} (i n : Nat) (f : Nat → α) : Nat → α := fun j => if i < j ∧ j ≤ n then f (j - 1) else f j
def insR {α : Type} (a n : Nat) (v : α) (f : Nat → α) : Nat → α := fun i => if i < a then f i else if i = a then v else if i ≤ n then f (i - 1) else f i
def delR {α : Type} (a n : Nat) (f : Nat → α) : Nat → α := fun i => if a ≤ i ∧ i + 1 < n then f (i + 1) else f i
theorem shR_self {α : Type} (n : Nat) (f : Nat → α) : shR n n f = f := by
  funext j; unfold shR; rw [if_neg (by omega)]
theorem shR_step {α : Type} {i n : Nat} (hi : i + 1 ≤ n) (f : Nat → α) : va_up (shR (i + 1) n f) (i + 1) (shR (i + 1) n f i) = shR i n f := by
  funext j
  by_cases e : j = i + 1
  · subst e
    simp only [va_up, shR, if_true]
    rw [if_neg (by omega), if_pos ⟨by omega, hi⟩]; rfl
  · have e2 : (i + 1 < j ∧ j ≤ n) = (i < j ∧ j ≤ n) := by apply propext; omega
    simp only [va_up, shR, if_neg e, e2]
theorem shR_ins {α : Type} {i n : Nat} (v : α) (f : Nat → α) : va_up (shR i n f) i v = insR i n v f := by
  funext j
  unfold va_up shR insR
  by_cases e : j = i
  · rw [if_pos e, if_neg (by omega), if_pos e]
  · rw [if_neg e]
    by_cases h1 : j < i
    · rw [if_neg (by omega), if_pos h1]
    · rw [if_neg h1, if_neg e]
      by_cases h2 : j ≤ n
      · rw [if_pos ⟨by omega, h2⟩, if_pos h2]
      · rw [if_neg (by omega), if_neg h2]
/-- a Base object: its shape -/
def isB (w : sw_W) (b pa ba : Nat) : Prop := sw_o w b 1 ∧ w.2.2 b 0 = pa ∧ w.2.2 b 1 = ba ∧ sw_r w pa 0 4 ∧ sw_r w ba 0 4 ∧ pa ≠ ba ∧ b ≠ pa ∧ b ≠ ba
/-- what it holds: n primes p with boxes bx -/
def atB (h : sw_H) (b pa ba n : Nat) (p bx : Nat → Int) : Prop := h.1 b 2 = zI n ∧ n ≤ 4 ∧ (∀ i, i < n → h.1 pa i = zI (p i) ∧ 2 ≤ p i ∧ p i ≤ 31) ∧ (∀ i, i < n → h.1 ba i = zI (bx i) ∧ 0 ≤ bx i ∧ bx i ≤ 4)
theorem sw_pI_comm {h : sw_H} {a c : Nat} {f g : Nat → Int32} (e : a ≠ c) : sw_pI (sw_pI h a f) c g = sw_pI (sw_pI h c g) a f := by
  simp only [sw_pI]; congr 1; funext x
  by_cases h1 : x = a
  · subst h1; simp [va_up, e]
  · by_cases h2 : x = c
    · subst h2; simp [va_up, h1]
    · simp [va_up, h1, h2]
theorem sw_pL_comm {h : sw_H} {a c : Nat} {f g : Nat → Int64} (e : a ≠ c) : sw_pL (sw_pL h a f) c g = sw_pL (sw_pL h c g) a f := by
  simp only [sw_pL]; congr 1; funext x
  by_cases h1 : x = a
  · subst h1; simp [va_up, e]
  · by_cases h2 : x = c
    · subst h2; simp [va_up, h1]
    · simp [va_up, h1, h2]
section sw_base
variable {w : sw_W} {X : sw_X} {l : Launch} {d : Nat} {h : sw_H} {b pa ba n : Nat} {p bx : Nat → Int}
theorem c_B_has (S : isB w b pa ba) (V : h.1 b 2 = zI n) (hn : n < 2147483648) {i : Int} (i1 : -2147483648 ≤ i) (i2 : i < 2147483648) : sw_ct w X l d mX1_has [.ref b, .int (zI i)] h (sw_qI w X fun r h2 => h2 = h ∧ r = zI (if 0 ≤ i ∧ i < n then 1 else 0)) := by
  obtain ⟨s1, s2, s3, s4, s5, s6, s7, s8⟩ := S
  refine sw_ct_of (by decide +kernel) (Nat.le_of_ble_eq_true rfl) rfl ?_
  refine sw_iload_n 1 dX1_has_0 rfl rfl rfl ?_
  refine sw_if_lt 16 4 dX1_has_1 (by decide) rfl (fun c1 => ?_) (fun c1 => ?_)
  · refine sw_iconst (v := zI 0) 17 dX1_has_16 rfl (by decide) ?_
    exact sw_zret (by first | exact Or.inl rfl | exact Or.inr rfl | assumption) dX1_has_17 rfl (⟨rfl, by simp (disch := omega) only [z0, zI_lt, zI_le] at *; first | rw [if_pos (by omega)] | rw [if_neg (by omega)]⟩)
  · refine sw_iload_n 5 dX1_has_4 rfl rfl rfl ?_
    refine sw_aload_n 6 dX1_has_5 rfl rfl rfl ?_
    refine sw_getI 9 dX1_has_6 rfl gf_RX1_18 rfl (by first | assumption | exact ⟨by decide, rfl⟩) ?_
    rw [V]
    refine sw_icmp_ge 16 12 dX1_has_9 (by decide) rfl (fun c9 => ?_) (fun c9 => ?_)
    · refine sw_iconst (v := zI 0) 17 dX1_has_16 rfl (by decide) ?_
      exact sw_zret (by first | exact Or.inl rfl | exact Or.inr rfl | assumption) dX1_has_17 rfl (⟨rfl, by simp (disch := omega) only [z0, zI_lt, zI_le] at *; first | rw [if_pos (by omega)] | rw [if_neg (by omega)]⟩)
    · refine sw_iconst (v := zI 1) 13 dX1_has_12 rfl (by decide) ?_
      refine sw_goto 17 dX1_has_13 (by decide) ?_
      exact sw_zret (by first | exact Or.inl rfl | exact Or.inr rfl | assumption) dX1_has_17 rfl (⟨rfl, by simp (disch := omega) only [z0, zI_lt, zI_le] at *; first | rw [if_pos (by omega)] | rw [if_neg (by omega)]⟩)
theorem c_B_placeOf (S : isB w b pa ba) (V : atB h b pa ba n p bx) {v : Int} (v1 : -2147483648 ≤ v) (v2 : v < 2147483648) : sw_ct w X l d mX1_placeOf [.ref b, .int (zI v)] h (sw_qI w X fun r h2 => h2 = h ∧ r = zI (fndZ p v n 0)) := by
  obtain ⟨s1, s2, s3, s4, s5, s6, s7, s8⟩ := S
  obtain ⟨v3, v4, v5, v6⟩ := V
  refine sw_ct_of (by decide +kernel) (Nat.le_of_ble_eq_true rfl) rfl ?_
  have loop : ∀ m j : Nat, j + m = n → sw_wp w X l d mX1_placeOf (sw_qI w X fun r h2 => h2 = h ∧ r = zI (fndZ p v m j)) 2 [(0, .ref b), (1, .int (zI v)), (2, .int (zI j))] [] h := by
    intro m
    induction m with
    | zero =>
      intro j hj
      have : j = n := by omega
      subst this
      refine sw_iload_n 3 dX1_placeOf_2 rfl rfl rfl ?_
      refine sw_aload_n 4 dX1_placeOf_3 rfl rfl rfl ?_
      refine sw_getI 7 dX1_placeOf_4 rfl gf_RX1_18 rfl (by first | assumption | exact ⟨by decide, rfl⟩) ?_
      rw [v3]
      refine sw_icmp_ge 28 10 dX1_placeOf_7 (by decide) rfl (fun c7 => ?_) (fun c7 => ?_)
      · refine sw_iconst (v := zI (-1)) 29 dX1_placeOf_28 rfl (by decide) ?_
        exact sw_iret dX1_placeOf_29 rfl (⟨rfl, rfl⟩)
      · exact absurd (Int32.le_refl _) c7
    | succ m ih =>
      intro j hj
      have hin : vp_in (zI j) 4 := zI_inN (by omega) (by omega)
      have hv := v5 j (by omega)
      unfold fndZ
      refine sw_iload_n 3 dX1_placeOf_2 rfl rfl rfl ?_
      refine sw_aload_n 4 dX1_placeOf_3 rfl rfl rfl ?_
      refine sw_getI 7 dX1_placeOf_4 rfl gf_RX1_18 rfl (by first | assumption | exact ⟨by decide, rfl⟩) ?_
      rw [v3]
      refine sw_icmp_ge 28 10 dX1_placeOf_7 (by decide) rfl (fun c7 => ?_) (fun c7 => ?_)
      · exact absurd c7 (by rw [zI_le (by omega) (by omega) (by omega) (by omega)]; omega)
      · refine sw_aload_n 11 dX1_placeOf_10 rfl rfl rfl ?_
        refine sw_getR 14 dX1_placeOf_11 rfl gf_RX1_9 (fun _ _ _ _ => rfl) (by first | assumption | exact ⟨by decide, rfl⟩) (by first | assumption | rfl) ?_
        refine sw_iload_n 15 dX1_placeOf_14 rfl rfl rfl ?_
        refine sw_iald 16 dX1_placeOf_15 rfl (by first | assumption | exact ⟨by decide, rfl⟩) (by assumption) ?_
        refine sw_iload_n 17 dX1_placeOf_16 rfl rfl rfl ?_
        rw [zI_clampN (by omega), hv.1]
        refine sw_icmp_ne 22 20 dX1_placeOf_17 (by decide) rfl (fun c17 => ?_) (fun c17 => ?_)
        · rw [zI_eq (by omega) (by omega) (by omega) (by omega)] at c17
          rw [if_neg c17]
          refine sw_iinc (v := zI 1) (lc' := [(0, _), (1, _), (2, _)]) 25 dX1_placeOf_22 rfl (by decide) rfl rfl rfl ?_
          refine sw_goto 2 dX1_placeOf_25 (by decide) ?_
          rw [zI_add]
          exact ih (j + 1) (by omega)
        · rw [zI_eq (by omega) (by omega) (by omega) (by omega)] at c17
          rw [if_pos c17]
          refine sw_iload_n 21 dX1_placeOf_20 rfl rfl rfl ?_
          exact sw_iret dX1_placeOf_21 rfl (⟨rfl, rfl⟩)
  refine sw_iconst (v := zI 0) 1 dX1_placeOf_0 rfl (by decide) ?_
  refine sw_istore_n (lc' := [(0, _), (1, _), (2, _)]) 2 dX1_placeOf_1 rfl rfl (by decide) rfl ?_
  exact loop n 0 (by omega)
theorem c_B_product (S : isB w b pa ba) (V : atB h b pa ba n p bx) : sw_ct w X l d mX1_product [.ref b] h (sw_qI w X fun r h2 => h2 = h ∧ r = zI (prodZ p n)) := by
  obtain ⟨s1, s2, s3, s4, s5, s6, s7, s8⟩ := S
  obtain ⟨v3, v4, v5, v6⟩ := V
  refine sw_ct_of (by decide +kernel) (Nat.le_of_ble_eq_true rfl) rfl ?_
  have loop : ∀ m j : Nat, j + m = n → sw_wp w X l d mX1_product (sw_qI w X fun r h2 => h2 = h ∧ r = zI (prodZ p n)) 4 [(0, .ref b), (1, .int (zI (prodZ p j))), (2, .int (zI j))] [] h := by
    intro m
    induction m with
    | zero =>
      intro j hj
      have : j = n := by omega
      subst this
      refine sw_iload_n 5 dX1_product_4 rfl rfl rfl ?_
      refine sw_aload_n 6 dX1_product_5 rfl rfl rfl ?_
      refine sw_getI 9 dX1_product_6 rfl gf_RX1_18 rfl (by first | assumption | exact ⟨by decide, rfl⟩) ?_
      rw [v3]
      refine sw_icmp_ge 27 12 dX1_product_9 (by decide) rfl (fun c9 => ?_) (fun c9 => ?_)
      · refine sw_iload_n 28 dX1_product_27 rfl rfl rfl ?_
        exact sw_iret dX1_product_28 rfl (⟨rfl, rfl⟩)
      · exact absurd (Int32.le_refl _) c9
    | succ m ih =>
      intro j hj
      have hin : vp_in (zI j) 4 := zI_inN (by omega) (by omega)
      have hv := v5 j (by omega)
      refine sw_iload_n 5 dX1_product_4 rfl rfl rfl ?_
      refine sw_aload_n 6 dX1_product_5 rfl rfl rfl ?_
      refine sw_getI 9 dX1_product_6 rfl gf_RX1_18 rfl (by first | assumption | exact ⟨by decide, rfl⟩) ?_
      rw [v3]
      refine sw_icmp_ge 27 12 dX1_product_9 (by decide) rfl (fun c9 => ?_) (fun c9 => ?_)
      · exact absurd c9 (by rw [zI_le (by omega) (by omega) (by omega) (by omega)]; omega)
      · refine sw_iload_n 13 dX1_product_12 rfl rfl rfl ?_
        refine sw_aload_n 14 dX1_product_13 rfl rfl rfl ?_
        refine sw_getR 17 dX1_product_14 rfl gf_RX1_9 (fun _ _ _ _ => rfl) (by first | assumption | exact ⟨by decide, rfl⟩) (by first | assumption | rfl) ?_
        refine sw_iload_n 18 dX1_product_17 rfl rfl rfl ?_
        refine sw_iald 19 dX1_product_18 rfl (by first | assumption | exact ⟨by decide, rfl⟩) (by assumption) ?_
        rw [zI_clampN (by omega), hv.1]
        refine sw_imul 20 dX1_product_19 rfl ?_
        refine sw_istore_n (lc' := [(0, _), (1, _), (2, _)]) 21 dX1_product_20 rfl rfl (by decide) rfl ?_
        refine sw_iinc (v := zI 1) (lc' := [(0, _), (1, _), (2, _)]) 24 dX1_product_21 rfl (by decide) rfl rfl rfl ?_
        refine sw_goto 4 dX1_product_24 (by decide) ?_
        rw [zI_add, zI_mul]
        exact ih (j + 1) (by omega)
  refine sw_iconst (v := zI 1) 1 dX1_product_0 rfl (by decide) ?_
  refine sw_istore_n (lc' := [(0, _), (1, _)]) 2 dX1_product_1 rfl rfl (by decide) rfl ?_
  refine sw_iconst (v := zI 0) 3 dX1_product_2 rfl (by decide) ?_
  refine sw_istore_n (lc' := [(0, _), (1, _), (2, _)]) 4 dX1_product_3 rfl rfl (by decide) rfl ?_
  exact loop n 0 (by omega)
/-- insert(v): the place, the rows, one more -/
theorem c_B_insert (S : isB w b pa ba) (V : atB h b pa ba n p bx) (hn : n < 4) {v : Int} (v1 : -2147483648 ≤ v) (v2 : v < 2147483648) : sw_ct w X l d mX1_insert [.ref b, .int (zI v)] h (sw_qI w X fun r h2 => h2 = sw_wI (sw_pI (sw_pI h pa (insR (insAt p v n) n (zI v) (h.1 pa))) ba (insR (insAt p v n) n (zI 2) (h.1 ba))) b 2 (zI (n + 1)) ∧ r = zI (insAt p v n)) := by
  obtain ⟨s1, s2, s3, s4, s5, s6, s7, s8⟩ := S
  obtain ⟨v3, v4, v5, v6⟩ := V
  refine sw_ct_of (by decide +kernel) (Nat.le_of_ble_eq_true rfl) rfl ?_
  generalize hQ : (sw_qI w X fun r h2 => h2 = sw_wI (sw_pI (sw_pI h pa (insR (insAt p v n) n (zI v) (h.1 pa))) ba (insR (insAt p v n) n (zI 2) (h.1 ba))) b 2 (zI (n + 1)) ∧ r = zI (insAt p v n)) = Qc
  have tail : ∀ i : Nat, i ≤ n → i = insAt p v n → ∀ k : Int32, sw_wp w X l d mX1_insert Qc 74 [(0, .ref b), (1, .int (zI v)), (2, .int (zI i)), (3, .int k)] [] (sw_pI (sw_pI h pa (shR i n (h.1 pa))) ba (shR i n (h.1 ba))) := by
    intro i hi hie k
    have hin : vp_in (zI i) 4 := zI_inN (by omega) (by omega)
    subst hQ
    refine sw_aload_n 75 dX1_insert_74 rfl rfl rfl ?_
    refine sw_getR 78 dX1_insert_75 rfl gf_RX1_9 (fun _ _ _ _ => rfl) (by first | assumption | exact ⟨by decide, rfl⟩) (by first | assumption | rfl) ?_
    refine sw_iload_n 79 dX1_insert_78 rfl rfl rfl ?_
    refine sw_iload_n 80 dX1_insert_79 rfl rfl rfl ?_
    refine sw_iast 81 dX1_insert_80 rfl (by first | assumption | exact ⟨by decide, rfl⟩) (by assumption) ?_
    refine sw_aload_n 82 dX1_insert_81 rfl rfl rfl ?_
    refine sw_getR 85 dX1_insert_82 rfl gf_RX1_15 (fun _ _ _ _ => rfl) (by first | assumption | exact ⟨by decide, rfl⟩) (by first | assumption | rfl) ?_
    refine sw_iload_n 86 dX1_insert_85 rfl rfl rfl ?_
    refine sw_iconst (v := zI 2) 87 dX1_insert_86 rfl (by decide) ?_
    refine sw_iast 88 dX1_insert_87 rfl (by first | assumption | exact ⟨by decide, rfl⟩) (by assumption) ?_
    refine sw_aload_n 89 dX1_insert_88 rfl rfl rfl ?_
    refine sw_dup 90 dX1_insert_89 rfl rfl ?_
    refine sw_getI 93 dX1_insert_90 rfl gf_RX1_18 rfl (by first | assumption | exact ⟨by decide, rfl⟩) ?_
    refine sw_iconst (v := zI 1) 94 dX1_insert_93 rfl (by decide) ?_
    refine sw_iadd 95 dX1_insert_94 rfl ?_
    refine sw_putI 98 dX1_insert_95 rfl pf_RX1_18 rfl (by first | assumption | exact ⟨by decide, rfl⟩) ?_
    refine sw_iload_n 99 dX1_insert_98 rfl rfl rfl ?_
    exact sw_iret dX1_insert_99 rfl (⟨by
  rw [← hie]
  simp only [zI_clampN (show i < 2147483648 by omega)]
  have e1 : sw_wI (sw_pI (sw_pI h pa (shR i n (h.1 pa))) ba (shR i n (h.1 ba))) pa i (zI v) = sw_pI (sw_pI h pa (insR i n (zI v) (h.1 pa))) ba (shR i n (h.1 ba)) := by
    rw [sw_wI_p, sw_pI_ne s6, sw_pI_at, shR_ins, sw_pI_comm s6.symm, sw_pI_pI]
  rw [e1, sw_wI_pI, shR_ins]
  congr 1
  rw [sw_pI_ne s8, sw_pI_ne s7, v3, zI_add], by rw [hie]⟩)
  have loop : ∀ i : Nat, i ≤ n → insAt p v n = insAt p v i → sw_wp w X l d mX1_insert Qc 20 [(0, .ref b), (1, .int (zI v)), (2, .int (zI i)), (3, .int (zI i))] [] (sw_pI (sw_pI h pa (shR i n (h.1 pa))) ba (shR i n (h.1 ba))) := by
    intro i
    induction i with
    | zero =>
      intro hi hie
      refine sw_iload_n 21 dX1_insert_20 rfl rfl rfl ?_
      refine sw_if_le 74 24 dX1_insert_21 (by decide) rfl (fun c21 => ?_) (fun c21 => ?_)
      · exact tail 0 (by omega) (by rw [hie]; rfl) _
      · exact absurd (Int32.le_refl _) c21
    | succ i ih =>
      intro hi hie
      have hin : vp_in (zI (i + 1)) 4 := zI_in (by omega) (by omega) (by omega)
      have hin0 : vp_in (zI i) 4 := zI_inN (by omega) (by omega)
      have hv := v5 i (by omega)
      have e0 : zI ((i : Nat) + 1 : Nat) - zI 1 = zI i := by rw [zI_sub]; congr 1; omega
      have hin9 : vp_in (zI ((i : Nat) + 1 : Nat) - zI 1) 4 := by rw [e0]; exact hin0
      have hc : (zI ((i : Nat) + 1 : Nat)).toNatClampNeg = i + 1 := zI_clampN (by omega)
      have e1 : (sw_pI (sw_pI h pa (shR (i + 1) n (h.1 pa))) ba (shR (i + 1) n (h.1 ba))).1 pa = shR (i + 1) n (h.1 pa) := by rw [sw_pI_ne s6, sw_pI_at]
      have e2 : shR (i + 1) n (h.1 pa) i = zI (p i) := by unfold shR; rw [if_neg (by omega), hv.1]
      rw [show insAt p v (i + 1) = if v < p i then insAt p v i else i + 1 from rfl] at hie
      refine sw_iload_n 21 dX1_insert_20 rfl rfl rfl ?_
      refine sw_if_le 74 24 dX1_insert_21 (by decide) rfl (fun c21 => ?_) (fun c21 => ?_)
      · exact absurd c21 (by rw [z0, zI_le (by omega) (by omega) (by omega) (by omega)]; omega)
      · refine sw_aload_n 25 dX1_insert_24 rfl rfl rfl ?_
        refine sw_getR 28 dX1_insert_25 rfl gf_RX1_9 (fun _ _ _ _ => rfl) (by first | assumption | exact ⟨by decide, rfl⟩) (by first | assumption | rfl) ?_
        refine sw_iload_n 29 dX1_insert_28 rfl rfl rfl ?_
        refine sw_iconst (v := zI 1) 30 dX1_insert_29 rfl (by decide) ?_
        refine sw_isub 31 dX1_insert_30 rfl ?_
        refine sw_iald 32 dX1_insert_31 rfl (by first | assumption | exact ⟨by decide, rfl⟩) (by assumption) ?_
        refine sw_iload_n 33 dX1_insert_32 rfl rfl rfl ?_
        rw [e0, zI_clampN (by omega), e1, e2]
        refine sw_icmp_le 74 36 dX1_insert_33 (by decide) rfl (fun c33 => ?_) (fun c33 => ?_)
        · rw [zI_le (by omega) (by omega) (by omega) (by omega)] at c33
          rw [if_neg (by omega)] at hie
          exact tail (i + 1) hi hie.symm _
        · rw [zI_le (by omega) (by omega) (by omega) (by omega)] at c33
          rw [if_pos (by omega)] at hie
          refine sw_aload_n 37 dX1_insert_36 rfl rfl rfl ?_
          refine sw_getR 40 dX1_insert_37 rfl gf_RX1_9 (fun _ _ _ _ => rfl) (by first | assumption | exact ⟨by decide, rfl⟩) (by first | assumption | rfl) ?_
          refine sw_iload_n 41 dX1_insert_40 rfl rfl rfl ?_
          refine sw_aload_n 42 dX1_insert_41 rfl rfl rfl ?_
          refine sw_getR 45 dX1_insert_42 rfl gf_RX1_9 (fun _ _ _ _ => rfl) (by first | assumption | exact ⟨by decide, rfl⟩) (by first | assumption | rfl) ?_
          refine sw_iload_n 46 dX1_insert_45 rfl rfl rfl ?_
          refine sw_iconst (v := zI 1) 47 dX1_insert_46 rfl (by decide) ?_
          refine sw_isub 48 dX1_insert_47 rfl ?_
          refine sw_iald 49 dX1_insert_48 rfl (by first | assumption | exact ⟨by decide, rfl⟩) (by assumption) ?_
          refine sw_iast 50 dX1_insert_49 rfl (by first | assumption | exact ⟨by decide, rfl⟩) (by assumption) ?_
          refine sw_aload_n 51 dX1_insert_50 rfl rfl rfl ?_
          refine sw_getR 54 dX1_insert_51 rfl gf_RX1_15 (fun _ _ _ _ => rfl) (by first | assumption | exact ⟨by decide, rfl⟩) (by first | assumption | rfl) ?_
          refine sw_iload_n 55 dX1_insert_54 rfl rfl rfl ?_
          refine sw_aload_n 56 dX1_insert_55 rfl rfl rfl ?_
          refine sw_getR 59 dX1_insert_56 rfl gf_RX1_15 (fun _ _ _ _ => rfl) (by first | assumption | exact ⟨by decide, rfl⟩) (by first | assumption | rfl) ?_
          refine sw_iload_n 60 dX1_insert_59 rfl rfl rfl ?_
          refine sw_iconst (v := zI 1) 61 dX1_insert_60 rfl (by decide) ?_
          refine sw_isub 62 dX1_insert_61 rfl ?_
          refine sw_iald 63 dX1_insert_62 rfl (by first | assumption | exact ⟨by decide, rfl⟩) (by assumption) ?_
          refine sw_iast 64 dX1_insert_63 rfl (by first | assumption | exact ⟨by decide, rfl⟩) (by assumption) ?_
          refine sw_iload_n 65 dX1_insert_64 rfl rfl rfl ?_
          refine sw_iconst (v := zI 1) 66 dX1_insert_65 rfl (by decide) ?_
          refine sw_isub 67 dX1_insert_66 rfl ?_
          refine sw_istore_n (lc' := [(0, _), (1, _), (2, _), (3, _)]) 68 dX1_insert_67 rfl rfl (by decide) rfl ?_
          refine sw_iinc (v := zI (-1)) (lc' := [(0, _), (1, _), (2, _), (3, _)]) 71 dX1_insert_68 rfl (by decide) rfl rfl rfl ?_
          refine sw_goto 20 dX1_insert_71 (by decide) ?_
          rw [e0, show zI ((i : Nat) + 1 : Nat) + zI (-1) = zI i by rw [zI_add]; congr 1; omega]
          simp only [hc, zI_clampN (show i < 2147483648 by omega)]
          have f1 : sw_wI (sw_pI (sw_pI h pa (shR (i + 1) n (h.1 pa))) ba (shR (i + 1) n (h.1 ba))) pa (i + 1) ((sw_pI (sw_pI h pa (shR (i + 1) n (h.1 pa))) ba (shR (i + 1) n (h.1 ba))).1 pa i) = sw_pI (sw_pI h pa (shR i n (h.1 pa))) ba (shR (i + 1) n (h.1 ba)) := by
            rw [sw_wI_p, e1, shR_step hi, sw_pI_comm s6.symm, sw_pI_pI]
          rw [f1, sw_wI_pI, sw_pI_at, shR_step hi]
          exact ih (by omega) hie
  refine sw_aload_n 1 dX1_insert_0 rfl rfl rfl ?_
  refine sw_getI 4 dX1_insert_1 rfl gf_RX1_18 rfl (by first | assumption | exact ⟨by decide, rfl⟩) ?_
  refine sw_iconst (v := zI 4) 5 dX1_insert_4 rfl (by decide) ?_
  rw [v3]
  refine sw_icmp_lt 10 8 dX1_insert_5 (by decide) rfl (fun c5 => ?_) (fun c5 => ?_)
  · refine sw_aload_n 11 dX1_insert_10 rfl rfl rfl ?_
    refine sw_getI 14 dX1_insert_11 rfl gf_RX1_18 rfl (by first | assumption | exact ⟨by decide, rfl⟩) ?_
    refine sw_istore_n (lc' := [(0, _), (1, _), (2, _)]) 15 dX1_insert_14 rfl rfl (by decide) rfl ?_
    refine sw_aload_n 16 dX1_insert_15 rfl rfl rfl ?_
    refine sw_getI 19 dX1_insert_16 rfl gf_RX1_18 rfl (by first | assumption | exact ⟨by decide, rfl⟩) ?_
    refine sw_istore_n (lc' := [(0, _), (1, _), (2, _), (3, _)]) 20 dX1_insert_19 rfl rfl (by decide) rfl ?_
    rw [v3]
    have e := loop n (Nat.le_refl n) rfl
    rw [shR_self, shR_self, sw_pI_self rfl, sw_pI_self rfl] at e
    exact e
  · exact absurd ((zI_lt (by omega) (by omega) (by omega) (by omega)).mpr (by omega)) c5
/-- removeAt(k) at a place k < n -/
def rmR {α : Type} (k j : Nat) (f : Nat → α) : Nat → α := fun i => if k ≤ i ∧ i < j then f (i + 1) else f i
theorem rmR_self {α : Type} (k : Nat) (f : Nat → α) : rmR k k f = f := by
  funext j; unfold rmR; rw [if_neg (by omega)]
theorem rmR_step {α : Type} {k j : Nat} (hk : k ≤ j) (f : Nat → α) : va_up (rmR k j f) j (rmR k j f (j + 1)) = rmR k (j + 1) f := by
  funext i
  by_cases e : i = j
  · subst e
    simp only [va_up, rmR, if_true]
    rw [if_neg (by omega), if_pos ⟨hk, by omega⟩]
  · have e2 : (k ≤ i ∧ i < j) = (k ≤ i ∧ i < j + 1) := by apply propext; omega
    simp only [va_up, rmR, if_neg e, e2]
theorem c_B_removeAt (S : isB w b pa ba) (V : atB h b pa ba n p bx) {k : Nat} (hk : k < n) : sw_ct w X l (d + 1) mX1_removeAt [.ref b, .int (zI k)] h (sw_qV w X fun h2 => h2 = sw_wI (sw_pI (sw_pI h pa (rmR k (n - 1) (h.1 pa))) ba (rmR k (n - 1) (h.1 ba))) b 2 (zI (n - 1 : Nat))) := by
  have S0 := S
  obtain ⟨s1, s2, s3, s4, s5, s6, s7, s8⟩ := S
  obtain ⟨v3, v4, v5, v6⟩ := V
  refine sw_ct_of (by decide +kernel) (Nat.le_of_ble_eq_true rfl) rfl ?_
  generalize hQ : (sw_qV w X fun h2 => h2 = sw_wI (sw_pI (sw_pI h pa (rmR k (n - 1) (h.1 pa))) ba (rmR k (n - 1) (h.1 ba))) b 2 (zI (n - 1 : Nat))) = Qc
  have loop : ∀ m j : Nat, j + m = n - 1 → k ≤ j → sw_wp w X l (d + 1) mX1_removeAt Qc 11 [(0, .ref b), (1, .int (zI k)), (2, .int (zI j))] [] (sw_pI (sw_pI h pa (rmR k j (h.1 pa))) ba (rmR k j (h.1 ba))) := by
    intro m
    induction m with
    | zero =>
      intro j hj hkj
      have : j = n - 1 := by omega
      subst this
      subst hQ
      have e3 : zI (n : Nat) - zI 1 = zI (n - 1 : Nat) := by rw [zI_sub]; congr 1; omega
      refine sw_iload_n 12 dX1_removeAt_11 rfl rfl rfl ?_
      refine sw_aload_n 13 dX1_removeAt_12 rfl rfl rfl ?_
      refine sw_getI 16 dX1_removeAt_13 rfl gf_RX1_18 rfl (by first | assumption | exact ⟨by decide, rfl⟩) ?_
      rw [sw_pI_ne s8, sw_pI_ne s7, v3]
      refine sw_iconst (v := zI 1) 17 dX1_removeAt_16 rfl (by decide) ?_
      refine sw_isub 18 dX1_removeAt_17 rfl ?_
      rw [e3]
      refine sw_icmp_ge 55 21 dX1_removeAt_18 (by decide) rfl (fun c18 => ?_) (fun c18 => ?_)
      · refine sw_aload_n 56 dX1_removeAt_55 rfl rfl rfl ?_
        refine sw_dup 57 dX1_removeAt_56 rfl rfl ?_
        refine sw_getI 60 dX1_removeAt_57 rfl gf_RX1_18 rfl (by first | assumption | exact ⟨by decide, rfl⟩) ?_
        refine sw_iconst (v := zI 1) 61 dX1_removeAt_60 rfl (by decide) ?_
        refine sw_isub 62 dX1_removeAt_61 rfl ?_
        refine sw_putI 65 dX1_removeAt_62 rfl pf_RX1_18 rfl (by first | assumption | exact ⟨by decide, rfl⟩) ?_
        exact sw_vret dX1_removeAt_65 rfl (by rw [sw_pI_ne s8, sw_pI_ne s7, v3, e3])
      · exact absurd (Int32.le_refl _) c18
    | succ m ih =>
      intro j hj hkj
      have hin : vp_in (zI j) 4 := zI_inN (by omega) (by omega)
      have e4 : zI j + zI 1 = zI (j + 1 : Nat) := by rw [zI_add]; rfl
      have hin2 : vp_in (zI j + zI 1) 4 := by rw [e4]; exact zI_inN (by omega) (by omega)
      have e3 : zI (n : Nat) - zI 1 = zI (n - 1 : Nat) := by rw [zI_sub]; congr 1; omega
      refine sw_iload_n 12 dX1_removeAt_11 rfl rfl rfl ?_
      refine sw_aload_n 13 dX1_removeAt_12 rfl rfl rfl ?_
      refine sw_getI 16 dX1_removeAt_13 rfl gf_RX1_18 rfl (by first | assumption | exact ⟨by decide, rfl⟩) ?_
      rw [sw_pI_ne s8, sw_pI_ne s7, v3]
      refine sw_iconst (v := zI 1) 17 dX1_removeAt_16 rfl (by decide) ?_
      refine sw_isub 18 dX1_removeAt_17 rfl ?_
      refine sw_icmp_ge 55 21 dX1_removeAt_18 (by decide) rfl (fun c18 => ?_) (fun c18 => ?_)
      · exact absurd c18 (by rw [e3, zI_le (by omega) (by omega) (by omega) (by omega)]; omega)
      · refine sw_aload_n 22 dX1_removeAt_21 rfl rfl rfl ?_
        refine sw_getR 25 dX1_removeAt_22 rfl gf_RX1_9 (fun _ _ _ _ => rfl) (by first | assumption | exact ⟨by decide, rfl⟩) (by first | assumption | rfl) ?_
        refine sw_iload_n 26 dX1_removeAt_25 rfl rfl rfl ?_
        refine sw_aload_n 27 dX1_removeAt_26 rfl rfl rfl ?_
        refine sw_getR 30 dX1_removeAt_27 rfl gf_RX1_9 (fun _ _ _ _ => rfl) (by first | assumption | exact ⟨by decide, rfl⟩) (by first | assumption | rfl) ?_
        refine sw_iload_n 31 dX1_removeAt_30 rfl rfl rfl ?_
        refine sw_iconst (v := zI 1) 32 dX1_removeAt_31 rfl (by decide) ?_
        refine sw_iadd 33 dX1_removeAt_32 rfl ?_
        refine sw_iald 34 dX1_removeAt_33 rfl (by first | assumption | exact ⟨by decide, rfl⟩) (by assumption) ?_
        refine sw_iast 35 dX1_removeAt_34 rfl (by first | assumption | exact ⟨by decide, rfl⟩) (by assumption) ?_
        refine sw_aload_n 36 dX1_removeAt_35 rfl rfl rfl ?_
        refine sw_getR 39 dX1_removeAt_36 rfl gf_RX1_15 (fun _ _ _ _ => rfl) (by first | assumption | exact ⟨by decide, rfl⟩) (by first | assumption | rfl) ?_
        refine sw_iload_n 40 dX1_removeAt_39 rfl rfl rfl ?_
        refine sw_aload_n 41 dX1_removeAt_40 rfl rfl rfl ?_
        refine sw_getR 44 dX1_removeAt_41 rfl gf_RX1_15 (fun _ _ _ _ => rfl) (by first | assumption | exact ⟨by decide, rfl⟩) (by first | assumption | rfl) ?_
        refine sw_iload_n 45 dX1_removeAt_44 rfl rfl rfl ?_
        refine sw_iconst (v := zI 1) 46 dX1_removeAt_45 rfl (by decide) ?_
        refine sw_iadd 47 dX1_removeAt_46 rfl ?_
        refine sw_iald 48 dX1_removeAt_47 rfl (by first | assumption | exact ⟨by decide, rfl⟩) (by assumption) ?_
        refine sw_iast 49 dX1_removeAt_48 rfl (by first | assumption | exact ⟨by decide, rfl⟩) (by assumption) ?_
        refine sw_iinc (v := zI 1) (lc' := [(0, _), (1, _), (2, _)]) 52 dX1_removeAt_49 rfl (by decide) rfl rfl rfl ?_
        refine sw_goto 11 dX1_removeAt_52 (by decide) ?_
        rw [e4]
        simp only [zI_clampN (show j < 2147483648 by omega), zI_clampN (show j + 1 < 2147483648 by omega)]
        have e1 : (sw_pI (sw_pI h pa (rmR k j (h.1 pa))) ba (rmR k j (h.1 ba))).1 pa = rmR k j (h.1 pa) := by rw [sw_pI_ne s6, sw_pI_at]
        have f1 : sw_wI (sw_pI (sw_pI h pa (rmR k j (h.1 pa))) ba (rmR k j (h.1 ba))) pa j ((sw_pI (sw_pI h pa (rmR k j (h.1 pa))) ba (rmR k j (h.1 ba))).1 pa (j + 1)) = sw_pI (sw_pI h pa (rmR k (j + 1) (h.1 pa))) ba (rmR k j (h.1 ba)) := by
          rw [sw_wI_p, e1, rmR_step hkj, sw_pI_comm s6.symm, sw_pI_pI]
        rw [f1, sw_wI_pI, sw_pI_at, rmR_step hkj]
        exact ih (j + 1) (by omega) (by omega)
  refine sw_aload_n 1 dX1_removeAt_0 rfl rfl rfl ?_
  refine sw_iload_n 2 dX1_removeAt_1 rfl rfl rfl ?_
  refine sw_invVI 5 dX1_removeAt_2 rfl lk_RX1_22 (c_B_has (i := k) S0 v3 (by omega) (by omega) (by omega)) (by first | assumption | exact ⟨by decide, rfl⟩) rfl rfl (Nat.le_of_ble_eq_true rfl) (fun r2 h2 hq2 => ?_)
  obtain ⟨rfl, rfl⟩ := hq2
  refine sw_if_ne 9 8 dX1_removeAt_5 (by decide) rfl (fun c5 => ?_) (fun c5 => ?_)
  · refine sw_iload_n 10 dX1_removeAt_9 rfl rfl rfl ?_
    refine sw_istore_n (lc' := [(0, _), (1, _), (2, _)]) 11 dX1_removeAt_10 rfl rfl (by decide) rfl ?_
    have e := loop (n - 1 - k) k (by omega) (Nat.le_refl k)
    rw [rmR_self, rmR_self, sw_pI_self rfl, sw_pI_self rfl] at e
    exact e
  · exact absurd c5 (by rw [if_pos (by omega)]; decide)
/-- what is left of r when q is taken out, m times at most -/
def divUp (q : Int) : Nat → Int → Int
  | 0, r => r
  | m + 1, r => if r % q = 0 then divUp q m (r / q) else r
def holdZ (p bx : Nat → Int) : Nat → Nat → Int → Int
  | 0, _, r => r
  | m + 1, i, r => holdZ p bx m (i + 1) (divUp (p i) (bx i).toNat r)
theorem divUp_pos {q : Int} (hq : 2 ≤ q) : ∀ (m : Nat) {r : Int}, 0 < r → 0 < divUp q m r ∧ divUp q m r ≤ r
  | 0, r, hr => ⟨hr, Int.le_refl _⟩
  | m + 1, r, hr => by
    unfold divUp
    by_cases e : r % q = 0
    · rw [if_pos e]
      have h1 : 0 < r / q := by
        have := Int.mul_ediv_add_emod r q
        rw [e] at this
        rcases Int.lt_or_le 0 (r / q) with h | h
        · exact h
        · have : q * (r / q) ≤ 0 := Int.mul_nonpos_of_nonneg_of_nonpos (by omega) h
          omega
      have h2 : r / q ≤ r := Int.ediv_le_self q (by omega)
      have := divUp_pos hq m h1
      omega
    · rw [if_neg e]; exact ⟨hr, Int.le_refl _⟩
theorem c_divides {q v : Int} (q1 : 2 ≤ q) (q2 : q ≤ 31) (v1 : 0 ≤ v) (v2 : v < 9223372036854775808) : sw_ct w X l d mX11_divides [.int (zI q), .long (zL v)] h (sw_qI w X fun r h2 => h2 = h ∧ r = zI (if v % q = 0 then 1 else 0)) := by
  have hqz : ¬ zL q = 0 := by rw [zL0, zL_eq (by omega) (by omega) (by omega) (by omega)]; omega
  have hm0 : 0 ≤ v % q := Int.emod_nonneg _ (by omega)
  have hm1 : v % q < q := Int.emod_lt_of_pos _ (by omega)
  refine sw_ct_of (by decide +kernel) (Nat.le_of_ble_eq_true rfl) rfl ?_
  refine sw_iload_n 1 dX11_divides_0 rfl rfl rfl ?_
  refine sw_iconst (v := zI 1) 2 dX11_divides_1 rfl (by decide) ?_
  refine sw_icmp_le 18 5 dX11_divides_2 (by decide) rfl (fun c2 => ?_) (fun c2 => ?_)
  · exact absurd c2 (by rw [zI_le (by omega) (by omega) (by omega) (by omega)]; omega)
  · refine sw_lload_n 6 dX11_divides_5 rfl rfl rfl ?_
    refine sw_iload_n 7 dX11_divides_6 rfl rfl rfl ?_
    refine sw_i2l 8 dX11_divides_7 rfl ?_
    rw [zI_i2l (by omega) (by omega)]
    refine sw_lrem 9 dX11_divides_8 rfl (by first | assumption | decide) ?_
    rw [zL_rem (by omega) (by omega) (by omega) (by omega), Int.tmod_eq_emod_of_nonneg (by omega)]
    refine sw_lconst (v := zL 0) 10 dX11_divides_9 rfl (by decide) ?_
    refine sw_lcmp 11 dX11_divides_10 rfl ?_
    refine sw_if_ne 18 14 dX11_divides_11 (by decide) rfl (fun c11 => ?_) (fun c11 => ?_)
    · refine sw_iconst (v := zI 0) 19 dX11_divides_18 rfl (by decide) ?_
      exact sw_zret (by first | exact Or.inl rfl | exact Or.inr rfl | assumption) dX11_divides_19 rfl (⟨rfl, by
  rw [lc_eq, zL_eq (by omega) (by omega) (by omega) (by omega)] at c11
  first | rw [if_pos c11] | rw [if_neg c11]⟩)
    · refine sw_iconst (v := zI 1) 15 dX11_divides_14 rfl (by decide) ?_
      refine sw_goto 19 dX11_divides_15 (by decide) ?_
      exact sw_zret (by first | exact Or.inl rfl | exact Or.inr rfl | assumption) dX11_divides_19 rfl (⟨rfl, by
  rw [lc_eq, zL_eq (by omega) (by omega) (by omega) (by omega)] at c11
  first | rw [if_pos c11] | rw [if_neg c11]⟩)
/-- the answer of divides, read -/
theorem dv_0 {r q : Int} (c : zI (if r % q = 0 then 1 else 0) = 0) : ¬ r % q = 0 := fun e => by rw [if_pos e] at c; exact absurd c (by decide)
theorem dv_1 {r q : Int} (c : ¬ zI (if r % q = 0 then 1 else 0) = 0) : r % q = 0 := by
  by_cases e : r % q = 0
  · exact e
  · rw [if_neg e] at c; exact absurd rfl c
theorem c_B_boxesHold (S : isB w b pa ba) (V : atB h b pa ba n p bx) {v : Int} (v1 : 0 < v) (v2 : v < 9223372036854775808) : sw_ct w X l (d + 1) mX1_boxesHold [.ref b, .long (zL v)] h (sw_qI w X fun r h2 => h2 = h ∧ r = zI (if holdZ p bx n 0 v = 1 then 1 else 0)) := by
  obtain ⟨s1, s2, s3, s4, s5, s6, s7, s8⟩ := S
  obtain ⟨v3, v4, v5, v6⟩ := V
  refine sw_ct_of (by decide +kernel) (Nat.le_of_ble_eq_true rfl) rfl ?_
  have inner : ∀ (m j : Nat) (i : Nat) (r z : Int), i < n → (j : Int) + m = bx i → 0 < r → r < 9223372036854775808 → (∀ z' : Int, z' = divUp (p i) m r → sw_wp w X l (d + 1) mX1_boxesHold (sw_qI w X fun r h2 => h2 = h ∧ r = zI (if z = 1 then 1 else 0)) 60 [(0, .ref b), (1, .long (zL v)), (3, .long (zL z')), (5, .int (zI i))] [] h) → sw_wp w X l (d + 1) mX1_boxesHold (sw_qI w X fun r h2 => h2 = h ∧ r = zI (if z = 1 then 1 else 0)) 17 [(0, .ref b), (1, .long (zL v)), (3, .long (zL r)), (5, .int (zI i)), (6, .int (zI j))] [] h := by
    intro m
    induction m with
    | zero =>
      intro j i r z hi hj hr1 hr2 k
      have hin : vp_in (zI i) 4 := zI_inN (by omega) (by omega)
      have hv := v6 i hi
      refine sw_iload 19 dX1_boxesHold_17 rfl rfl ?_
      refine sw_aload_n 20 dX1_boxesHold_19 rfl rfl rfl ?_
      refine sw_getR 23 dX1_boxesHold_20 rfl gf_RX1_15 (fun _ _ _ _ => rfl) (by first | assumption | exact ⟨by decide, rfl⟩) (by first | assumption | rfl) ?_
      refine sw_iload 25 dX1_boxesHold_23 rfl rfl ?_
      refine sw_iald 26 dX1_boxesHold_25 rfl (by first | assumption | exact ⟨by decide, rfl⟩) (by assumption) ?_
      rw [zI_clampN (by omega), hv.1, ← hj]
      refine sw_icmp_ge 60 29 dX1_boxesHold_26 (by decide) rfl (fun c26 => ?_) (fun c26 => ?_)
      · exact sw_wp_sub (by simp) (k r rfl)
      · exact absurd ((zI_le (by omega) (by omega) (by omega) (by omega)).mpr (by omega)) c26
    | succ m ih =>
      intro j i r z hi hj hr1 hr2 k
      have hin : vp_in (zI i) 4 := zI_inN (by omega) (by omega)
      have hv := v6 i hi
      have hp := v5 i hi
      have hpz : ¬ zL (p i) = 0 := by rw [zL0, zL_eq (by omega) (by omega) (by omega) (by omega)]; omega
      have hdu : divUp (p i) (m + 1) r = if r % p i = 0 then divUp (p i) m (r / p i) else r := rfl
      have hq0 : 0 ≤ r / p i := Int.ediv_nonneg (by omega) (by omega)
      have hq1 : r / p i ≤ r := Int.ediv_le_self (p i) (by omega)
      have hm0 : 0 ≤ r % p i := Int.emod_nonneg _ (by omega)
      have hm1 : r % p i < p i := Int.emod_lt_of_pos _ (by omega)
      refine sw_iload 19 dX1_boxesHold_17 rfl rfl ?_
      refine sw_aload_n 20 dX1_boxesHold_19 rfl rfl rfl ?_
      refine sw_getR 23 dX1_boxesHold_20 rfl gf_RX1_15 (fun _ _ _ _ => rfl) (by first | assumption | exact ⟨by decide, rfl⟩) (by first | assumption | rfl) ?_
      refine sw_iload 25 dX1_boxesHold_23 rfl rfl ?_
      refine sw_iald 26 dX1_boxesHold_25 rfl (by first | assumption | exact ⟨by decide, rfl⟩) (by assumption) ?_
      rw [zI_clampN (by omega), hv.1, ← hj]
      refine sw_icmp_ge 60 29 dX1_boxesHold_26 (by decide) rfl (fun c26 => ?_) (fun c26 => ?_)
      · exact absurd c26 (by rw [zI_le (by omega) (by omega) (by omega) (by omega)]; omega)
      · refine sw_aload_n 30 dX1_boxesHold_29 rfl rfl rfl ?_
        refine sw_getR 33 dX1_boxesHold_30 rfl gf_RX1_9 (fun _ _ _ _ => rfl) (by first | assumption | exact ⟨by decide, rfl⟩) (by first | assumption | rfl) ?_
        refine sw_iload 35 dX1_boxesHold_33 rfl rfl ?_
        refine sw_iald 36 dX1_boxesHold_35 rfl (by first | assumption | exact ⟨by decide, rfl⟩) (by assumption) ?_
        rw [zI_clampN (by omega), hp.1]
        refine sw_lload_n 37 dX1_boxesHold_36 rfl rfl rfl ?_
        refine sw_invSNI 40 dX1_boxesHold_37 rfl lk_RX1_26 (c_divides hp.2.1 hp.2.2 (by omega) hr2) rfl rfl (Nat.le_of_ble_eq_true rfl) (fun r37 h37 hq37 => ?_)
        obtain ⟨rfl, rfl⟩ := hq37
        refine sw_if_eq 60 43 dX1_boxesHold_40 (by decide) rfl (fun c40 => ?_) (fun c40 => ?_)
        · have cq := dv_0 c40
          rw [if_neg cq] at hdu
          exact sw_wp_sub (by simp) (k r hdu.symm)
        · have cq := dv_1 c40
          rw [if_pos cq] at hdu
          refine sw_lload_n 44 dX1_boxesHold_43 rfl rfl rfl ?_
          refine sw_aload_n 45 dX1_boxesHold_44 rfl rfl rfl ?_
          refine sw_getR 48 dX1_boxesHold_45 rfl gf_RX1_9 (fun _ _ _ _ => rfl) (by first | assumption | exact ⟨by decide, rfl⟩) (by first | assumption | rfl) ?_
          refine sw_iload 50 dX1_boxesHold_48 rfl rfl ?_
          refine sw_iald 51 dX1_boxesHold_50 rfl (by first | assumption | exact ⟨by decide, rfl⟩) (by assumption) ?_
          rw [zI_clampN (by omega), hp.1]
          refine sw_i2l 52 dX1_boxesHold_51 rfl ?_
          rw [zI_i2l (by omega) (by omega)]
          refine sw_ldiv 53 dX1_boxesHold_52 rfl (by first | assumption | decide) ?_
          rw [zL_div (by omega) (by omega) (by omega) (by omega), Int.tdiv_eq_ediv_of_nonneg (by omega)]
          refine sw_lstore_n (lc' := [(0, _), (1, _), (3, _), (5, _), (6, _)]) 54 dX1_boxesHold_53 rfl rfl (by decide) rfl ?_
          refine sw_iinc (v := zI 1) (lc' := [(0, _), (1, _), (3, _), (5, _), (6, _)]) 57 dX1_boxesHold_54 rfl (by decide) rfl rfl rfl ?_
          refine sw_goto 17 dX1_boxesHold_57 (by decide) ?_
          rw [zI_add]
          have h9 := divUp_pos (q := p i) (by omega) 1 hr1
          rw [show divUp (p i) 1 r = r / p i by unfold divUp; rw [if_pos cq]; rfl] at h9
          exact ih (j + 1) i (r / p i) z hi (by omega) h9.1 (by omega) (fun z' hz => k z' (hz.trans hdu.symm))
  have outer : ∀ (m j : Nat) (r : Int), j + m = n → 0 < r → r < 9223372036854775808 → sw_wp w X l (d + 1) mX1_boxesHold (sw_qI w X fun r' h2 => h2 = h ∧ r' = zI (if holdZ p bx m j r = 1 then 1 else 0)) 5 [(0, .ref b), (1, .long (zL v)), (3, .long (zL r)), (5, .int (zI j))] [] h := by
    intro m
    induction m with
    | zero =>
      intro j r hj hr1 hr2
      have : j = n := by omega
      subst this
      refine sw_iload 7 dX1_boxesHold_5 rfl rfl ?_
      refine sw_aload_n 8 dX1_boxesHold_7 rfl rfl rfl ?_
      refine sw_getI 11 dX1_boxesHold_8 rfl gf_RX1_18 rfl (by first | assumption | exact ⟨by decide, rfl⟩) ?_
      rw [v3]
      refine sw_icmp_ge 66 14 dX1_boxesHold_11 (by decide) rfl (fun c11 => ?_) (fun c11 => ?_)
      · refine sw_lload_n 67 dX1_boxesHold_66 rfl rfl rfl ?_
        refine sw_lconst (v := zL 1) 68 dX1_boxesHold_67 rfl (by decide) ?_
        refine sw_lcmp 69 dX1_boxesHold_68 rfl ?_
        refine sw_if_ne 76 72 dX1_boxesHold_69 (by decide) rfl (fun c69 => ?_) (fun c69 => ?_)
        · refine sw_iconst (v := zI 0) 77 dX1_boxesHold_76 rfl (by decide) ?_
          exact sw_zret (by first | exact Or.inl rfl | exact Or.inr rfl | assumption) dX1_boxesHold_77 rfl (⟨rfl, by
  rw [show holdZ p bx 0 j r = r from rfl]
  rw [lc_eq, zL_eq (by omega) (by omega) (by omega) (by omega)] at c69
  first | rw [if_pos c69] | rw [if_neg c69]⟩)
        · refine sw_iconst (v := zI 1) 73 dX1_boxesHold_72 rfl (by decide) ?_
          refine sw_goto 77 dX1_boxesHold_73 (by decide) ?_
          exact sw_zret (by first | exact Or.inl rfl | exact Or.inr rfl | assumption) dX1_boxesHold_77 rfl (⟨rfl, by
  rw [show holdZ p bx 0 j r = r from rfl]
  rw [lc_eq, zL_eq (by omega) (by omega) (by omega) (by omega)] at c69
  first | rw [if_pos c69] | rw [if_neg c69]⟩)
      · exact absurd (Int32.le_refl _) c11
    | succ m ih =>
      intro j r hj hr1 hr2
      have hv := v6 j (by omega)
      have hp := v5 j (by omega)
      refine sw_iload 7 dX1_boxesHold_5 rfl rfl ?_
      refine sw_aload_n 8 dX1_boxesHold_7 rfl rfl rfl ?_
      refine sw_getI 11 dX1_boxesHold_8 rfl gf_RX1_18 rfl (by first | assumption | exact ⟨by decide, rfl⟩) ?_
      rw [v3]
      refine sw_icmp_ge 66 14 dX1_boxesHold_11 (by decide) rfl (fun c11 => ?_) (fun c11 => ?_)
      · exact absurd c11 (by rw [zI_le (by omega) (by omega) (by omega) (by omega)]; omega)
      · refine sw_iconst (v := zI 0) 15 dX1_boxesHold_14 rfl (by decide) ?_
        refine sw_istore (lc' := [(0, _), (1, _), (3, _), (5, _), (6, _)]) 17 dX1_boxesHold_15 rfl (by decide) rfl ?_
        refine inner (bx j).toNat 0 j r (holdZ p bx (m + 1) j r) (by omega) (by omega) hr1 hr2 (fun z' hz => ?_)
        have h9 := divUp_pos (q := p j) (by omega) (bx j).toNat hr1
        refine sw_iinc (v := zI 1) (lc' := [(0, _), (1, _), (3, _), (5, _)]) 63 dX1_boxesHold_60 rfl (by decide) rfl rfl rfl ?_
        refine sw_goto 5 dX1_boxesHold_63 (by decide) ?_
        rw [zI_add, show holdZ p bx (m + 1) j r = holdZ p bx m (j + 1) z' by rw [hz]; rfl]
        exact ih (j + 1) z' (by omega) (by omega) (by omega)
  refine sw_lload_n 1 dX1_boxesHold_0 rfl rfl rfl ?_
  refine sw_lstore_n (lc' := [(0, _), (1, _), (3, _)]) 2 dX1_boxesHold_1 rfl rfl (by decide) rfl ?_
  refine sw_iconst (v := zI 0) 3 dX1_boxesHold_2 rfl (by decide) ?_
  refine sw_istore (lc' := [(0, _), (1, _), (3, _), (5, _)]) 5 dX1_boxesHold_3 rfl (by decide) rfl ?_
  exact outer n 0 v (by omega) v1 v2
theorem c_B_copy {b2 pa2 ba2 : Nat} (S : isB w b pa ba) (S2 : isB w b2 pa2 ba2) (e1 : ba2 ≠ pa) (e2 : b2 ≠ pa) (e3 : b2 ≠ ba) : sw_ct w X l (d + 1) mX1_copy [.ref b, .ref b2] h (sw_qV w X fun h2 => h2 = sw_wI (sw_pI (sw_pI h pa (va_cpy (h.1 pa2) (h.1 pa) 0 0 4)) ba (va_cpy (h.1 ba2) (h.1 ba) 0 0 4)) b 2 (h.1 b2 2)) := by
  obtain ⟨s1, s2, s3, s4, s5, s6, s7, s8⟩ := S
  obtain ⟨q1, q2, q3, q4, q5, q6, q7, q8⟩ := S2
  refine sw_ct_of (by decide +kernel) (Nat.le_of_ble_eq_true rfl) rfl ?_
  refine sw_aload_n 1 dX1_copy_0 rfl rfl rfl ?_
  refine sw_getR 4 dX1_copy_1 rfl gf_RX1_9 (fun _ _ _ _ => rfl) (by first | assumption | exact ⟨by decide, rfl⟩) (by first | assumption | rfl) ?_
  refine sw_iconst (v := zI 0) 5 dX1_copy_4 rfl (by decide) ?_
  refine sw_aload_n 6 dX1_copy_5 rfl rfl rfl ?_
  refine sw_getR 9 dX1_copy_6 rfl gf_RX1_9 (fun _ _ _ _ => rfl) (by first | assumption | exact ⟨by decide, rfl⟩) (by first | assumption | rfl) ?_
  refine sw_iconst (v := zI 0) 10 dX1_copy_9 rfl (by decide) ?_
  refine sw_iconst (v := zI 4) 11 dX1_copy_10 rfl (by decide) ?_
  refine sw_acI 14 dX1_copy_11 rfl lk_RX1_30 (by first | assumption | exact ⟨by decide, rfl⟩) (by first | assumption | exact ⟨by decide, rfl⟩) (by decide) (by decide) (by decide) (by decide) (by decide) (Nat.le_of_ble_eq_true rfl) ?_
  refine sw_aload_n 15 dX1_copy_14 rfl rfl rfl ?_
  refine sw_getR 18 dX1_copy_15 rfl gf_RX1_15 (fun _ _ _ _ => rfl) (by first | assumption | exact ⟨by decide, rfl⟩) (by first | assumption | rfl) ?_
  refine sw_iconst (v := zI 0) 19 dX1_copy_18 rfl (by decide) ?_
  refine sw_aload_n 20 dX1_copy_19 rfl rfl rfl ?_
  refine sw_getR 23 dX1_copy_20 rfl gf_RX1_15 (fun _ _ _ _ => rfl) (by first | assumption | exact ⟨by decide, rfl⟩) (by first | assumption | rfl) ?_
  refine sw_iconst (v := zI 0) 24 dX1_copy_23 rfl (by decide) ?_
  refine sw_iconst (v := zI 4) 25 dX1_copy_24 rfl (by decide) ?_
  refine sw_acI 28 dX1_copy_25 rfl lk_RX1_30 (by first | assumption | exact ⟨by decide, rfl⟩) (by first | assumption | exact ⟨by decide, rfl⟩) (by decide) (by decide) (by decide) (by decide) (by decide) (Nat.le_of_ble_eq_true rfl) ?_
  refine sw_aload_n 29 dX1_copy_28 rfl rfl rfl ?_
  refine sw_aload_n 30 dX1_copy_29 rfl rfl rfl ?_
  refine sw_getI 33 dX1_copy_30 rfl gf_RX1_18 rfl (by first | assumption | exact ⟨by decide, rfl⟩) ?_
  refine sw_putI 36 dX1_copy_33 rfl pf_RX1_18 rfl (by first | assumption | exact ⟨by decide, rfl⟩) ?_
  exact sw_vret dX1_copy_36 rfl (by
  show sw_wI (sw_cpI (sw_cpI h pa2 pa 0 0 4) ba2 ba 0 0 4) b 2 ((sw_cpI (sw_cpI h pa2 pa 0 0 4) ba2 ba 0 0 4).1 b2 2) = _
  have f1 : sw_cpI h pa2 pa 0 0 4 = sw_pI h pa (va_cpy (h.1 pa2) (h.1 pa) 0 0 4) := rfl
  have f2 : sw_cpI (sw_pI h pa (va_cpy (h.1 pa2) (h.1 pa) 0 0 4)) ba2 ba 0 0 4 = sw_pI (sw_pI h pa (va_cpy (h.1 pa2) (h.1 pa) 0 0 4)) ba (va_cpy (h.1 ba2) (h.1 ba) 0 0 4) := by
    show sw_pI _ ba (va_cpy ((sw_pI h pa _).1 ba2) ((sw_pI h pa _).1 ba) 0 0 4) = _
    rw [sw_pI_ne e1, sw_pI_ne s6.symm]
  rw [f1, f2, sw_pI_ne e3, sw_pI_ne e2])
end sw_base
