/-! THE REFERENCE, 1: its state, primes and boxes -/
def imB (h : sw_H) (n : Nat) (p bx : Nat → Int) : Prop := h.1 0 0 = zI n ∧ ∀ i, i < n → h.1 1 i = zI (p i) ∧ h.1 2 i = zI (bx i)
def imU (h : sw_H) (n : Nat) (sg : Nat → Int) (e : Nat → Nat → Int) : Prop := ∀ s, s < 4 → h.1 4 s = zI (sg s) ∧ ∀ i, i < n → h.1 3 (4 * s + i) = zI (e s i)
def imS (h : sw_H) (z : Nat × (Nat → Int)) : Prop := h.1 0 5 = zI z.1 ∧ ∀ i, i < z.1 → h.1 5 i = zI (z.2 i)
def imE (h : sw_H) (E : DkZ) : Prop := h.1 23 32 = zI E.1.1 ∧ h.1 23 33 = zI E.2.2.1 ∧ (∀ i, i < E.1.1 → h.1 23 i = zI (E.1.2.1 i) ∧ h.1 23 (4 + i) = zI (E.1.2.2 i)) ∧ (∀ s, s < 4 → h.1 23 (8 + s) = zI (E.2.1.1 s) ∧ ∀ i, i < E.1.1 → h.1 23 (16 + 4 * s + i) = zI (E.2.1.2 s i)) ∧ ∀ i, i < E.2.2.1 → h.1 23 (12 + i) = zI (E.2.2.2 i)
def imI (h : sw_H) (im : Option DkZ) : Prop := (im = none ∧ h.1 0 32 = zI 0) ∨ ∃ E, im = some E ∧ h.1 0 32 = zI 1 ∧ imE h E
def imT (h : sw_H) (t : Nat × (Nat → Int)) : Prop := h.1 0 8 = zI t.1 ∧ ∀ i, i < t.1 → h.1 6 i = zI (t.2 i)
def imL (h : sw_H) (z : (Nat → Int) × (Nat → Nat → Int64)) : Prop := ∀ j, j < 3 → h.1 7 j = zI (z.1 j) ∧ ∀ i : Nat, (i : Int) < z.1 j → h.2 8 (20 * j + i) = z.2 j i
/-- the reference's heap at a state -/
def IM (h : sw_H) (σ : SgZ) : Prop := imB h σ.1.1.1 σ.1.1.2.1 σ.1.1.2.2 ∧ imU h σ.1.1.1 σ.1.2.1.1 σ.1.2.1.2 ∧ imS h σ.1.2.2 ∧ imI h σ.2.1 ∧ imT h σ.2.2.1 ∧ imL h σ.2.2.2
/-- only the cells of L and the fields of F may differ -/
def frM (L F : List Nat) (h h2 : sw_H) : Prop := (∀ a, a ≠ 0 → a ∉ L → h2.1 a = h.1 a) ∧ (∀ a, a ∉ L → h2.2 a = h.2 a) ∧ ∀ k, k ∉ F → h2.1 0 k = h.1 0 k
theorem frM_rf {L F : List Nat} {h : sw_H} : frM L F h h := ⟨fun _ _ _ => rfl, fun _ _ => rfl, fun _ _ => rfl⟩
theorem frM_tr {L F : List Nat} {h h2 h3 : sw_H} (a : frM L F h h2) (b : frM L F h2 h3) : frM L F h h3 :=
  ⟨fun x h1 h2 => (b.1 x h1 h2).trans (a.1 x h1 h2), fun x h1 => (b.2.1 x h1).trans (a.2.1 x h1), fun k hk => (b.2.2 k hk).trans (a.2.2 k hk)⟩
theorem frM_sub {L F L' F' : List Nat} {h h2 : sw_H} (a : frM L F h h2) (hL : ∀ x ∈ L, x ∈ L') (hF : ∀ x ∈ F, x ∈ F') : frM L' F' h h2 :=
  ⟨fun x h1 h2 => a.1 x h1 (fun h => h2 (hL x h)), fun x h1 => a.2.1 x (fun h => h1 (hL x h)), fun k hk => a.2.2 k (fun h => hk (hF k h))⟩
theorem frM_wI {L F : List Nat} {h : sw_H} {a k : Nat} {x : Int32} (h0 : a ≠ 0) (ha : a ∈ L) : frM L F h (sw_wI h a k x) :=
  ⟨fun b h1 h2 => sw_wI_ne (fun e => h2 (e ▸ ha)), fun _ _ => rfl, fun j _ => by rw [sw_wI_ne (Ne.symm h0)]⟩
theorem frM_w0 {L F : List Nat} {h : sw_H} {k : Nat} {x : Int32} (hk : k ∈ F) : frM L F h (sw_wI h 0 k x) :=
  ⟨fun b h1 h2 => sw_wI_ne h1, fun _ _ => rfl, fun j hj => by rw [sw_wI_at]; unfold va_up; rw [if_neg (by intro e; subst e; exact hj hk)]⟩
theorem frM_wL {L F : List Nat} {h : sw_H} {a k : Nat} {x : Int64} (ha : a ∈ L) : frM L F h (sw_wL h a k x) :=
  ⟨fun b h1 h2 => rfl, fun b hb => sw_wL_ne (fun e => hb (e ▸ ha)), fun j _ => rfl⟩
theorem frM_pI {L F : List Nat} {h : sw_H} {a : Nat} {f : Nat → Int32} (h0 : a ≠ 0) (ha : a ∈ L) : frM L F h (sw_pI h a f) :=
  ⟨fun b h1 h2 => sw_pI_ne (fun e => h2 (e ▸ ha)), fun _ _ => rfl, fun j _ => by rw [sw_pI_ne (Ne.symm h0)]⟩
theorem imB_fr {L F : List Nat} {h h2 : sw_H} {n : Nat} {p bx : Nat → Int} (V : imB h n p bx) (A : frM L F h h2) (a1 : 1 ∉ L) (a2 : 2 ∉ L) (a3 : 0 ∉ F) : imB h2 n p bx :=
  ⟨by rw [A.2.2 0 a3]; exact V.1, fun i hi => by rw [A.1 1 (by decide) a1, A.1 2 (by decide) a2]; exact V.2 i hi⟩
theorem IM_fr {L F : List Nat} {h h2 : sw_H} {σ : SgZ} (I : IM h σ) (A : frM L F h h2) (hL : ∀ a ∈ [1, 2, 3, 4, 5, 6, 7, 8, 23], a ∉ L) (hF : ∀ k ∈ [0, 5, 8, 32], k ∉ F) : IM h2 σ := by
  obtain ⟨i1, i2, i3, i4, i5, i6⟩ := I
  have B : ∀ a, a ≠ 0 → a ∈ [1, 2, 3, 4, 5, 6, 7, 8, 23] → h2.1 a = h.1 a := fun a h0 ha => A.1 a h0 (hL a ha)
  have Z : ∀ k, k ∈ [0, 5, 8, 32] → h2.1 0 k = h.1 0 k := fun k hk => A.2.2 k (hF k hk)
  refine ⟨⟨by rw [Z 0 (by decide)]; exact i1.1, fun i hi => by rw [B 1 (by decide) (by decide), B 2 (by decide) (by decide)]; exact i1.2 i hi⟩, fun s hs => by rw [B 4 (by decide) (by decide), B 3 (by decide) (by decide)]; exact i2 s hs, ⟨by rw [Z 5 (by decide)]; exact i3.1, fun i hi => by rw [B 5 (by decide) (by decide)]; exact i3.2 i hi⟩, ?_, ⟨by rw [Z 8 (by decide)]; exact i5.1, fun i hi => by rw [B 6 (by decide) (by decide)]; exact i5.2 i hi⟩, fun j hj => by rw [B 7 (by decide) (by decide), A.2.1 8 (hL 8 (by decide))]; exact i6 j hj⟩
  rcases i4 with ⟨z1, z2⟩ | ⟨E, z1, z2, z3⟩
  · exact Or.inl ⟨z1, by rw [Z 32 (by decide)]; exact z2⟩
  · exact Or.inr ⟨E, z1, by rw [Z 32 (by decide)]; exact z2, by unfold imE; rw [B 23 (by decide) (by decide)]; exact z3⟩
theorem kB_2 {σ : SgZ} (K : okS σ) {i : Nat} (hi : i < σ.1.1.1) : 2 ≤ σ.1.1.2.1 i ∧ σ.1.1.2.1 i ≤ 31 := (K.1.1.2.1 i hi).2
def whZ (v : Int) : Nat → Nat → Bool
  | 0, _ => true
  | c + 1, k => if v < (k : Int) * k then true else if v % k = 0 then false else whZ v c (k + 1)
theorem whZ_pr : ∀ v : Fin 98, 2 ≤ v.val → whZ (v.val : Int) 10 2 = isPr (v.val : Int) := by decide +kernel
section sw_m1
variable {X : sw_X} {l : Launch} {d : Nat} {h : sw_H} {σ : SgZ}
theorem c_in {w : sw_W} {v lo hi : Int} (v1 : -2147483648 ≤ v) (v2 : v < 2147483648) (l1 : -2147483648 ≤ lo) (l2 : lo < 2147483648) (h1 : -2147483648 ≤ hi) (h2 : hi < 2147483648) : sw_ct w X l d mX12_in [.int (zI v), .int (zI lo), .int (zI hi)] h (sw_qI w X fun r h2 => h2 = h ∧ r = zI (if lo ≤ v ∧ v ≤ hi then 1 else 0)) := by
  refine sw_ct_of (by decide +kernel) (Nat.le_of_ble_eq_true rfl) rfl ?_
  refine sw_iload_n 1 dX12_in_0 rfl rfl rfl ?_
  refine sw_iload_n 2 dX12_in_1 rfl rfl rfl ?_
  refine sw_icmp_lt 14 5 dX12_in_2 (by decide) rfl (fun c2 => ?_) (fun c2 => ?_)
  · refine sw_iconst (v := zI 0) 15 dX12_in_14 rfl (by decide) ?_
    exact sw_zret (by first | exact Or.inl rfl | exact Or.inr rfl | assumption) dX12_in_15 rfl (⟨rfl, by
  rw [zI_lt (by omega) (by omega) (by omega) (by omega)] at c2
  rw [if_neg (by omega)]⟩)
  · rw [zI_lt (by omega) (by omega) (by omega) (by omega)] at c2
    refine sw_iload_n 6 dX12_in_5 rfl rfl rfl ?_
    refine sw_iload_n 7 dX12_in_6 rfl rfl rfl ?_
    refine sw_icmp_gt 14 10 dX12_in_7 (by decide) rfl (fun c7 => ?_) (fun c7 => ?_)
    · refine sw_iconst (v := zI 0) 15 dX12_in_14 rfl (by decide) ?_
      exact sw_zret (by first | exact Or.inl rfl | exact Or.inr rfl | assumption) dX12_in_15 rfl (⟨rfl, by
  rw [zI_lt (by omega) (by omega) (by omega) (by omega)] at c7
  rw [if_neg (by omega)]⟩)
    · rw [zI_lt (by omega) (by omega) (by omega) (by omega)] at c7
      refine sw_iconst (v := zI 1) 11 dX12_in_10 rfl (by decide) ?_
      refine sw_goto 15 dX12_in_11 (by decide) ?_
      exact sw_zret (by first | exact Or.inl rfl | exact Or.inr rfl | assumption) dX12_in_15 rfl (⟨rfl, by rw [if_pos (by omega)]⟩)
theorem m_isShelf {w : sw_W} {s : Int} (s1 : -2147483648 ≤ s) (s2 : s < 2147483648) : sw_ct w X l (d + 1) mX12_isShelf [.int (zI s)] h (sw_qI w X fun r h2 => h2 = h ∧ r = zI (if 0 ≤ s ∧ s < 4 then 1 else 0)) := by
  refine sw_ct_of (by decide +kernel) (Nat.le_of_ble_eq_true rfl) rfl ?_
  refine sw_iload_n 1 dX12_isShelf_0 rfl rfl rfl ?_
  refine sw_iconst (v := zI 0) 2 dX12_isShelf_1 rfl (by decide) ?_
  refine sw_iconst (v := zI 3) 3 dX12_isShelf_2 rfl (by decide) ?_
  refine sw_invSI 6 dX12_isShelf_3 rfl lk_RX12_87 (c_in s1 s2 (by decide) (by decide) (by decide) (by decide)) rfl rfl (Nat.le_of_ble_eq_true rfl) (fun r3 h3 hq3 => ?_)
  obtain ⟨rfl, rfl⟩ := hq3
  exact sw_zret (by split <;> simp [zI]) dX12_isShelf_6 rfl (⟨rfl, by by_cases c : 0 ≤ s ∧ s < 4; (rw [if_pos c, if_pos (by omega)]); (rw [if_neg c, if_neg (by omega)])⟩)
theorem m_isList {w : sw_W} {s : Int} (s1 : -2147483648 ≤ s) (s2 : s < 2147483648) : sw_ct w X l (d + 1) mX12_isList [.int (zI s)] h (sw_qI w X fun r h2 => h2 = h ∧ r = zI (if 0 ≤ s ∧ s < 3 then 1 else 0)) := by
  refine sw_ct_of (by decide +kernel) (Nat.le_of_ble_eq_true rfl) rfl ?_
  refine sw_iload_n 1 dX12_isList_0 rfl rfl rfl ?_
  refine sw_iconst (v := zI 0) 2 dX12_isList_1 rfl (by decide) ?_
  refine sw_iconst (v := zI 2) 3 dX12_isList_2 rfl (by decide) ?_
  refine sw_invSI 6 dX12_isList_3 rfl lk_RX12_87 (c_in s1 s2 (by decide) (by decide) (by decide) (by decide)) rfl rfl (Nat.le_of_ble_eq_true rfl) (fun r3 h3 hq3 => ?_)
  obtain ⟨rfl, rfl⟩ := hq3
  exact sw_zret (by split <;> simp [zI]) dX12_isList_6 rfl (⟨rfl, by by_cases c : 0 ≤ s ∧ s < 3; (rw [if_pos c, if_pos (by omega)]); (rw [if_neg c, if_neg (by omega)])⟩)
theorem m_isPrime {n : Nat} (V : h.1 0 0 = zI n) (hn : n ≤ 5) {i : Int} (i1 : -2147483648 ≤ i) (i2 : i < 2147483648) : sw_ct wM X l (d + 1) mX12_isPrime [.ref 0, .int (zI i)] h (sw_qI wM X fun r h2 => h2 = h ∧ r = zI (if 0 ≤ i ∧ i < n then 1 else 0)) := by
  refine sw_ct_of (by decide +kernel) (Nat.le_of_ble_eq_true rfl) rfl ?_
  refine sw_iload_n 1 dX12_isPrime_0 rfl rfl rfl ?_
  refine sw_iconst (v := zI 0) 2 dX12_isPrime_1 rfl (by decide) ?_
  refine sw_aload_n 3 dX12_isPrime_2 rfl rfl rfl ?_
  refine sw_getI 6 dX12_isPrime_3 rfl gf_RX12_83 rfl ⟨by decide, rfl⟩ ?_
  refine sw_iconst (v := zI 1) 7 dX12_isPrime_6 rfl (by decide) ?_
  refine sw_isub 8 dX12_isPrime_7 rfl ?_
  rw [V, zI_sub]
  refine sw_invSI 11 dX12_isPrime_8 rfl lk_RX12_87 (c_in i1 i2 (by decide) (by decide) (by omega) (by omega)) rfl rfl (Nat.le_of_ble_eq_true rfl) (fun r8 h8 hq8 => ?_)
  obtain ⟨rfl, rfl⟩ := hq8
  exact sw_zret (by split <;> simp [zI]) dX12_isPrime_11 rfl (⟨rfl, by by_cases c : 0 ≤ i ∧ i < n; (rw [if_pos c, if_pos (by omega)]); (rw [if_neg c, if_neg (by omega)])⟩)
theorem m_isWhole {w : sw_W} {v : Int} (v1 : 2 ≤ v) (v2 : v ≤ 97) : sw_ct w X l d mX12_isWhole [.int (zI v)] h (sw_qI w X fun r h2 => h2 = h ∧ r = bI (isPr v)) := by
  refine sw_ct_of (by decide +kernel) (Nat.le_of_ble_eq_true rfl) rfl ?_
  have loop : ∀ (c k : Nat), k + c = 12 → 2 ≤ k → whZ v c k = isPr v → sw_wp w X l d mX12_isWhole (sw_qI w X fun r h2 => h2 = h ∧ r = bI (isPr v)) 2 [(0, .int (zI v)), (1, .int (zI k))] [] h := by
    intro c
    induction c with
    | zero =>
      intro k hk h2 hw
      have : k = 12 := by omega
      subst this
      refine sw_iload_n 3 dX12_isWhole_2 rfl rfl rfl ?_
      refine sw_iload_n 4 dX12_isWhole_3 rfl rfl rfl ?_
      refine sw_imul 5 dX12_isWhole_4 rfl ?_
      rw [zI_mul]
      refine sw_iload_n 6 dX12_isWhole_5 rfl rfl rfl ?_
      refine sw_icmp_gt 23 9 dX12_isWhole_6 (by decide) rfl (fun c6 => ?_) (fun c6 => ?_)
      · refine sw_iload_n 24 dX12_isWhole_23 rfl rfl rfl ?_
        refine sw_iconst (v := zI 1) 25 dX12_isWhole_24 rfl (by decide) ?_
        refine sw_icmp_le 32 28 dX12_isWhole_25 (by decide) rfl (fun c25 => ?_) (fun c25 => ?_)
        · exact absurd c25 (by rw [zI_le (by omega) (by omega) (by omega) (by omega)]; omega)
        · refine sw_iconst (v := zI 1) 29 dX12_isWhole_28 rfl (by decide) ?_
          refine sw_goto 33 dX12_isWhole_29 (by decide) ?_
          exact sw_zret (by first | exact Or.inl rfl | exact Or.inr rfl | assumption) dX12_isWhole_33 rfl (⟨rfl, by rw [← hw]; rfl⟩)
      · exact absurd (by rw [zI_lt (by omega) (by omega) (by omega) (by omega)]; omega) c6
    | succ c ih =>
      intro k hk h2 hw
      have le : whZ v (c + 1) k = if v < (k : Int) * k then true else if v % k = 0 then false else whZ v c (k + 1) := rfl
      have hz : ¬ zI (k : Nat) = 0 := by rw [z0, zI_eq (by omega) (by omega) (by omega) (by omega)]; omega
      have hm : (k : Int) * k ≤ 12 * 12 := Int.mul_le_mul (by omega) (by omega) (by omega) (by omega)
      have hm2 : 0 ≤ (k : Int) * k := Int.mul_nonneg (by omega) (by omega)
      have hr0 : 0 ≤ v % (k : Int) := Int.emod_nonneg _ (by omega)
      have hr1 : v % (k : Int) < k := Int.emod_lt_of_pos _ (by omega)
      refine sw_iload_n 3 dX12_isWhole_2 rfl rfl rfl ?_
      refine sw_iload_n 4 dX12_isWhole_3 rfl rfl rfl ?_
      refine sw_imul 5 dX12_isWhole_4 rfl ?_
      rw [zI_mul]
      refine sw_iload_n 6 dX12_isWhole_5 rfl rfl rfl ?_
      refine sw_icmp_gt 23 9 dX12_isWhole_6 (by decide) rfl (fun c6 => ?_) (fun c6 => ?_)
      · rw [zI_lt (by omega) (by omega) (by omega) (by omega)] at c6
        refine sw_iload_n 24 dX12_isWhole_23 rfl rfl rfl ?_
        refine sw_iconst (v := zI 1) 25 dX12_isWhole_24 rfl (by decide) ?_
        refine sw_icmp_le 32 28 dX12_isWhole_25 (by decide) rfl (fun c25 => ?_) (fun c25 => ?_)
        · exact absurd c25 (by rw [zI_le (by omega) (by omega) (by omega) (by omega)]; omega)
        · refine sw_iconst (v := zI 1) 29 dX12_isWhole_28 rfl (by decide) ?_
          refine sw_goto 33 dX12_isWhole_29 (by decide) ?_
          exact sw_zret (by first | exact Or.inl rfl | exact Or.inr rfl | assumption) dX12_isWhole_33 rfl (⟨rfl, by rw [← hw, le, if_pos c6]; rfl⟩)
      · rw [zI_lt (by omega) (by omega) (by omega) (by omega)] at c6
        refine sw_iload_n 10 dX12_isWhole_9 rfl rfl rfl ?_
        refine sw_iload_n 11 dX12_isWhole_10 rfl rfl rfl ?_
        refine sw_irem 12 dX12_isWhole_11 rfl (by first | assumption | decide) ?_
        rw [zI_rem (by omega) (by omega) (by omega) (by omega), Int.tmod_eq_emod_of_nonneg (by omega)]
        refine sw_if_ne 17 15 dX12_isWhole_12 (by decide) rfl (fun c12 => ?_) (fun c12 => ?_)
        · rw [z0, zI_eq (by omega) (by omega) (by omega) (by omega)] at c12
          refine sw_iinc (v := zI 1) (lc' := [(0, _), (1, _)]) 20 dX12_isWhole_17 rfl (by decide) rfl rfl rfl ?_
          refine sw_goto 2 dX12_isWhole_20 (by decide) ?_
          rw [zI_add]
          exact ih (k + 1) (by omega) (by omega) (by rw [← hw, le, if_neg c6, if_neg c12])
        · rw [z0, zI_eq (by omega) (by omega) (by omega) (by omega)] at c12
          refine sw_iconst (v := zI 0) 16 dX12_isWhole_15 rfl (by decide) ?_
          exact sw_zret (by first | exact Or.inl rfl | exact Or.inr rfl | assumption) dX12_isWhole_16 rfl (⟨rfl, by rw [← hw, le, if_neg c6, if_pos c12]; rfl⟩)
  refine sw_iconst (v := zI 2) 1 dX12_isWhole_0 rfl (by decide) ?_
  refine sw_istore_n (lc' := [(0, _), (1, _)]) 2 dX12_isWhole_1 rfl rfl (by decide) rfl ?_
  refine loop 10 2 (by omega) (by omega) ?_
  have h9 := whZ_pr ⟨v.toNat, by omega⟩ (by show 2 ≤ v.toNat; omega)
  rw [show ((v.toNat : Nat) : Int) = v by omega] at h9
  exact h9
theorem m_placeOf {n : Nat} {p bx : Nat → Int} (V : imB h n p bx) (hn : n ≤ 5) (hp : ∀ i, i < n → 2 ≤ p i ∧ p i ≤ 31) {v : Int} (v1 : -2147483648 ≤ v) (v2 : v < 2147483648) : sw_ct wM X l d mX12_placeOf [.ref 0, .int (zI v)] h (sw_qI wM X fun r h2 => h2 = h ∧ r = zI (fndZ p v n 0)) := by
  refine sw_ct_of (by decide +kernel) (Nat.le_of_ble_eq_true rfl) rfl ?_
  have loop : ∀ (m j : Nat), j + m = n → fndZ p v m j = fndZ p v n 0 → sw_wp wM X l d mX12_placeOf (sw_qI wM X fun r h2 => h2 = h ∧ r = zI (fndZ p v n 0)) 2 [(0, .ref 0), (1, .int (zI v)), (2, .int (zI j))] [] h := by
    intro m
    induction m with
    | zero =>
      intro j hj hf
      have : j = n := by omega
      subst this
      refine sw_iload_n 3 dX12_placeOf_2 rfl rfl rfl ?_
      refine sw_aload_n 4 dX12_placeOf_3 rfl rfl rfl ?_
      refine sw_getI 7 dX12_placeOf_4 rfl gf_RX12_83 rfl ⟨by decide, rfl⟩ ?_
      rw [V.1]
      refine sw_icmp_ge 28 10 dX12_placeOf_7 (by decide) rfl (fun c7 => ?_) (fun c7 => ?_)
      · refine sw_iconst (v := zI (-1)) 29 dX12_placeOf_28 rfl (by decide) ?_
        exact sw_iret dX12_placeOf_29 rfl (⟨rfl, by rw [← hf]; rfl⟩)
      · exact absurd (Int32.le_refl _) c7
    | succ m ih =>
      intro j hj hf
      have hin := zI_inN (a := j) (n := 5) (by omega) (by decide)
      have hv := (V.2 j (by omega)).1
      have hq := hp j (by omega)
      have le : fndZ p v (m + 1) j = if p j = v then (j : Int) else fndZ p v m (j + 1) := rfl
      refine sw_iload_n 3 dX12_placeOf_2 rfl rfl rfl ?_
      refine sw_aload_n 4 dX12_placeOf_3 rfl rfl rfl ?_
      refine sw_getI 7 dX12_placeOf_4 rfl gf_RX12_83 rfl ⟨by decide, rfl⟩ ?_
      rw [V.1]
      refine sw_icmp_ge 28 10 dX12_placeOf_7 (by decide) rfl (fun c7 => ?_) (fun c7 => ?_)
      · exact absurd c7 (by rw [zI_le (by omega) (by omega) (by omega) (by omega)]; omega)
      · refine sw_aload_n 11 dX12_placeOf_10 rfl rfl rfl ?_
        refine sw_getR (b := 1) 14 dX12_placeOf_11 rfl gf_RX12_9 (fun _ _ _ _ => rfl) ⟨by decide, rfl⟩ rfl ?_
        refine sw_iload_n 15 dX12_placeOf_14 rfl rfl rfl ?_
        refine sw_iald 16 dX12_placeOf_15 rfl ⟨by decide, rfl⟩ (by assumption) ?_
        rw [zI_clampN (by omega), hv]
        refine sw_iload_n 17 dX12_placeOf_16 rfl rfl rfl ?_
        refine sw_icmp_ne 22 20 dX12_placeOf_17 (by decide) rfl (fun c17 => ?_) (fun c17 => ?_)
        · rw [zI_eq (by omega) (by omega) (by omega) (by omega)] at c17
          refine sw_iinc (v := zI 1) (lc' := [(0, _), (1, _), (2, _)]) 25 dX12_placeOf_22 rfl (by decide) rfl rfl rfl ?_
          refine sw_goto 2 dX12_placeOf_25 (by decide) ?_
          rw [zI_add]
          exact ih (j + 1) (by omega) (by rw [← hf, le, if_neg c17])
        · rw [zI_eq (by omega) (by omega) (by omega) (by omega)] at c17
          refine sw_iload_n 21 dX12_placeOf_20 rfl rfl rfl ?_
          exact sw_iret dX12_placeOf_21 rfl (⟨rfl, by rw [← hf, le, if_pos c17]⟩)
  refine sw_iconst (v := zI 0) 1 dX12_placeOf_0 rfl (by decide) ?_
  refine sw_istore_n (lc' := [(0, _), (1, _), (2, _)]) 2 dX12_placeOf_1 rfl rfl (by decide) rfl ?_
  exact loop n 0 (by omega) rfl
theorem m_primeOf (K : okS σ) (I : IM h σ) {i : Int} (i1 : -2147483648 ≤ i) (i2 : i < 2147483648) : sw_ct wM X l (d + 2) mX12_primeOf [.ref 0, .int (zI i)] h (sw_qI wM X fun r h2 => IM h2 σ ∧ r = zI (opPrimeOf σ i)) := by
  have hn := K.1.1.1
  refine sw_ct_of (by decide +kernel) (Nat.le_of_ble_eq_true rfl) rfl ?_
  refine sw_aload_n 1 dX12_primeOf_0 rfl rfl rfl ?_
  refine sw_iload_n 2 dX12_primeOf_1 rfl rfl rfl ?_
  refine sw_invVI 5 dX12_primeOf_2 rfl lk_RX12_106 (m_isPrime I.1.1 (by omega) i1 i2) ⟨by decide, rfl⟩ rfl rfl (Nat.le_of_ble_eq_true rfl) (fun r2 h2 hq2 => ?_)
  obtain ⟨rfl, rfl⟩ := hq2
  refine sw_if_eq 17 8 dX12_primeOf_5 (by decide) rfl (fun c5 => ?_) (fun c5 => ?_)
  · refine sw_iconst (v := zI (-1)) 18 dX12_primeOf_17 rfl (by decide) ?_
    exact sw_iret dX12_primeOf_18 rfl (⟨I, by rw [ifz_eq] at c5; unfold opPrimeOf; rw [if_neg c5]⟩)
  · rw [ifz_eq, Decidable.not_not] at c5
    refine sw_aload_n 9 dX12_primeOf_8 rfl rfl rfl ?_
    refine sw_getR (b := 1) 12 dX12_primeOf_9 rfl gf_RX12_9 (fun _ _ _ _ => rfl) ⟨by decide, rfl⟩ rfl ?_
    refine sw_iload_n 13 dX12_primeOf_12 rfl rfl rfl ?_
    refine sw_iald 14 dX12_primeOf_13 rfl ⟨by decide, rfl⟩ (zI_in c5.1 (by omega) (by decide)) ?_
    refine sw_goto 18 dX12_primeOf_14 (by decide) ?_
    exact sw_iret dX12_primeOf_18 rfl (⟨I, by rw [zI_clamp (by omega) (by omega), (I.1.2 i.toNat (by omega)).1]; unfold opPrimeOf; rw [if_pos c5]⟩)
theorem m_boxOf (K : okS σ) (I : IM h σ) {i : Int} (i1 : -2147483648 ≤ i) (i2 : i < 2147483648) : sw_ct wM X l (d + 2) mX12_boxOf [.ref 0, .int (zI i)] h (sw_qI wM X fun r h2 => IM h2 σ ∧ r = zI (opBoxOf σ i)) := by
  have hn := K.1.1.1
  refine sw_ct_of (by decide +kernel) (Nat.le_of_ble_eq_true rfl) rfl ?_
  refine sw_aload_n 1 dX12_boxOf_0 rfl rfl rfl ?_
  refine sw_iload_n 2 dX12_boxOf_1 rfl rfl rfl ?_
  refine sw_invVI 5 dX12_boxOf_2 rfl lk_RX12_106 (m_isPrime I.1.1 (by omega) i1 i2) ⟨by decide, rfl⟩ rfl rfl (Nat.le_of_ble_eq_true rfl) (fun r2 h2 hq2 => ?_)
  obtain ⟨rfl, rfl⟩ := hq2
  refine sw_if_eq 17 8 dX12_boxOf_5 (by decide) rfl (fun c5 => ?_) (fun c5 => ?_)
  · refine sw_iconst (v := zI (-1)) 18 dX12_boxOf_17 rfl (by decide) ?_
    exact sw_iret dX12_boxOf_18 rfl (⟨I, by rw [ifz_eq] at c5; unfold opBoxOf; rw [if_neg c5]⟩)
  · rw [ifz_eq, Decidable.not_not] at c5
    refine sw_aload_n 9 dX12_boxOf_8 rfl rfl rfl ?_
    refine sw_getR (b := 2) 12 dX12_boxOf_9 rfl gf_RX12_15 (fun _ _ _ _ => rfl) ⟨by decide, rfl⟩ rfl ?_
    refine sw_iload_n 13 dX12_boxOf_12 rfl rfl rfl ?_
    refine sw_iald 14 dX12_boxOf_13 rfl ⟨by decide, rfl⟩ (zI_in c5.1 (by omega) (by decide)) ?_
    refine sw_goto 18 dX12_boxOf_14 (by decide) ?_
    exact sw_iret dX12_boxOf_18 rfl (⟨I, by rw [zI_clamp (by omega) (by omega), (I.1.2 i.toNat (by omega)).2]; unfold opBoxOf; rw [if_pos c5]⟩)
theorem m_box (K : okS σ) (I : IM h σ) {i b : Int} (i1 : -2147483648 ≤ i) (i2 : i < 2147483648) (b1 : -2147483648 ≤ b) (b2 : b < 2147483648) : sw_ct wM X l (d + 2) mX12_box [.ref 0, .int (zI i), .int (zI b)] h (sw_qI wM X fun r h2 => IM h2 (opBox σ i b).2 ∧ r = zI (opBox σ i b).1) := by
  have hn := K.1.1.1
  refine sw_ct_of (by decide +kernel) (Nat.le_of_ble_eq_true rfl) rfl ?_
  refine sw_aload_n 1 dX12_box_0 rfl rfl rfl ?_
  refine sw_iload_n 2 dX12_box_1 rfl rfl rfl ?_
  refine sw_invVI 5 dX12_box_2 rfl lk_RX12_106 (m_isPrime I.1.1 (by omega) i1 i2) ⟨by decide, rfl⟩ rfl rfl (Nat.le_of_ble_eq_true rfl) (fun r2 h2 hq2 => ?_)
  obtain ⟨rfl, rfl⟩ := hq2
  refine sw_if_ne 10 8 dX12_box_5 (by decide) rfl (fun c5 => ?_) (fun c5 => ?_)
  · rw [ifz_eq, Decidable.not_not] at c5
    obtain ⟨a, rfl⟩ := Int.eq_ofNat_of_zero_le c5.1
    have hin := zI_inN (a := a) (n := 5) (by omega) (by decide)
    refine sw_iload_n 11 dX12_box_10 rfl rfl rfl ?_
    refine sw_iconst (v := zI 0) 12 dX12_box_11 rfl (by decide) ?_
    refine sw_iconst (v := zI 4) 13 dX12_box_12 rfl (by decide) ?_
    refine sw_invSI 16 dX12_box_13 rfl lk_RX12_87 (c_in b1 b2 (by decide) (by decide) (by decide) (by decide)) rfl rfl (Nat.le_of_ble_eq_true rfl) (fun r13 h13 hq13 => ?_)
    obtain ⟨rfl, rfl⟩ := hq13
    refine sw_if_ne 22 19 dX12_box_16 (by decide) rfl (fun c16 => ?_) (fun c16 => ?_)
    · rw [ifz_eq, Decidable.not_not] at c16
      refine sw_aload_n 23 dX12_box_22 rfl rfl rfl ?_
      refine sw_getR (b := 2) 26 dX12_box_23 rfl gf_RX12_15 (fun _ _ _ _ => rfl) ⟨by decide, rfl⟩ rfl ?_
      refine sw_iload_n 27 dX12_box_26 rfl rfl rfl ?_
      refine sw_iald 28 dX12_box_27 rfl ⟨by decide, rfl⟩ (by assumption) ?_
      refine sw_istore_n (lc' := [(0, _), (1, _), (2, _), (3, _)]) 29 dX12_box_28 rfl rfl (by decide) rfl ?_
      refine sw_aload_n 30 dX12_box_29 rfl rfl rfl ?_
      refine sw_getR (b := 2) 33 dX12_box_30 rfl gf_RX12_15 (fun _ _ _ _ => rfl) ⟨by decide, rfl⟩ rfl ?_
      refine sw_iload_n 34 dX12_box_33 rfl rfl rfl ?_
      refine sw_iload_n 35 dX12_box_34 rfl rfl rfl ?_
      refine sw_iast 36 dX12_box_35 rfl ⟨by decide, rfl⟩ (by assumption) ?_
      refine sw_iload_n 37 dX12_box_36 rfl rfl rfl ?_
      exact sw_iret dX12_box_37 rfl (by
  unfold opBox; rw [if_pos c5, if_neg (by omega), zI_clampN (by omega)]
  obtain ⟨j1, j2, j3, j4, j5, j6⟩ := I
  have A : frM [2] [] h13 (sw_wI h13 2 a (zI b)) := frM_wI (by decide) (by decide)
  refine ⟨⟨⟨by rw [A.2.2 0 (by decide)]; exact j1.1, fun j hj => ?_⟩, fun s hs => by rw [A.1 4 (by decide) (by decide), A.1 3 (by decide) (by decide)]; exact j2 s hs, ⟨by rw [A.2.2 5 (by decide)]; exact j3.1, fun j hj => by rw [A.1 5 (by decide) (by decide)]; exact j3.2 j hj⟩, ?_, ⟨by rw [A.2.2 8 (by decide)]; exact j5.1, fun j hj => by rw [A.1 6 (by decide) (by decide)]; exact j5.2 j hj⟩, fun j hj => by rw [A.1 7 (by decide) (by decide)]; exact j6 j hj⟩, (j1.2 a (by omega)).2⟩
  · rw [A.1 1 (by decide) (by decide), sw_wI_at]
    refine ⟨(j1.2 j hj).1, ?_⟩
    show va_up (h13.1 2) a (zI b) j = zI (va_up σ.1.1.2.2 a b j)
    unfold va_up
    by_cases c : j = a
    · rw [if_pos c, if_pos c]
    · rw [if_neg c, if_neg c]; exact (j1.2 j hj).2
  · rcases j4 with ⟨z1, z2⟩ | ⟨E, z1, z2, z3⟩
    · exact Or.inl ⟨z1, by rw [A.2.2 32 (by decide)]; exact z2⟩
    · exact Or.inr ⟨E, z1, by rw [A.2.2 32 (by decide)]; exact z2, by unfold imE; rw [A.1 23 (by decide) (by decide)]; exact z3⟩)
    · rw [ifz_eq] at c16
      refine sw_bipush (v := zI (-2)) 21 dX12_box_19 rfl (by decide) ?_
      exact sw_iret dX12_box_21 rfl (by unfold opBox; rw [if_pos c5, if_pos (by omega)]; exact ⟨I, rfl⟩)
  · rw [ifz_eq] at c5
    refine sw_iconst (v := zI (-1)) 9 dX12_box_8 rfl (by decide) ?_
    exact sw_iret dX12_box_9 rfl (by unfold opBox; rw [if_neg c5]; exact ⟨I, rfl⟩)
end sw_m1
