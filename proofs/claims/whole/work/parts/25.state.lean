/-! THE STATE: primes and boxes, shelves, sieves; image; tape; lists -/
/-- n, p, boxes; signs, powers; how many sieves, which -/
abbrev DkZ : Type := (Nat × (Nat → Int) × (Nat → Int)) × ((Nat → Int) × (Nat → Nat → Int)) × (Nat × (Nat → Int))
/-- desk; image; tape; lists -/
abbrev SgZ : Type := DkZ × Option DkZ × (Nat × (Nat → Int)) × ((Nat → Int) × (Nat → Nat → Int64))
def primesL : List Int := [2, 3, 5, 7, 11, 13, 17, 19, 23, 29, 31, 37, 41, 43, 47, 53, 59, 61, 67, 71, 73, 79, 83, 89, 97]
def isPr (v : Int) : Bool := primesL.contains v
def okB (n : Nat) (p bx : Nat → Int) : Prop := n ≤ 4 ∧ (∀ i, i < n → isPr (p i) = true ∧ 2 ≤ p i ∧ p i ≤ 31) ∧ (∀ i j, i < j → j < n → p i < p j) ∧ prodZ p n ≤ 1000 ∧ ∀ i, i < n → 0 ≤ bx i ∧ bx i ≤ 4
def okD (D : DkZ) : Prop := okB D.1.1 D.1.2.1 D.1.2.2 ∧ (∀ s, s < 4 → (D.2.1.1 s = 1 ∨ D.2.1.1 s = -1) ∧ ∀ i, i < 4 → -6 ≤ D.2.1.2 s i ∧ D.2.1.2 s i ≤ 6 ∧ (D.1.1 ≤ i → D.2.1.2 s i = 0)) ∧
  D.2.2.1 ≤ 4 ∧ (∀ i, i < D.2.2.1 → isPr (D.2.2.2 i) = true ∧ 3 ≤ D.2.2.2 i ∧ D.2.2.2 i ≤ 97 ∧ ∀ j, j < D.1.1 → D.1.2.1 j ≠ D.2.2.2 i) ∧ ∀ i j, i < j → j < D.2.2.1 → D.2.2.2 i ≠ D.2.2.2 j
def okS (σ : SgZ) : Prop := okD σ.1 ∧ (∀ E, σ.2.1 = some E → okD E) ∧ (σ.2.2.1.1 ≤ 60 ∧ ∀ i, i < σ.2.2.1.1 → 32 ≤ σ.2.2.1.2 i ∧ σ.2.2.1.2 i ≤ 126) ∧ ∀ j, j < 3 → -1 ≤ σ.2.2.2.1 j ∧ σ.2.2.2.1 j ≤ 20
/-- the desk at the cells b .. b + 14 -/
def dkA (h : sw_H) (b : Nat) (D : DkZ) : Prop := h.1 (b + 1) 2 = zI D.1.1 ∧ (∀ i, i < D.1.1 → h.1 (b + 2) i = zI (D.1.2.1 i) ∧ h.1 (b + 3) i = zI (D.1.2.2 i)) ∧ (∀ s, s < 4 → h.1 (b + 7 + 2 * s) 1 = zI (D.2.1.1 s) ∧ ∀ i, i < 4 → h.1 (b + 8 + 2 * s) i = zI (D.2.1.2 s i)) ∧ h.1 (b + 5) 1 = zI D.2.2.1 ∧ ∀ i, i < D.2.2.1 → h.1 (b + 6) i = zI (D.2.2.2 i)
noncomputable def mkM (q n : Nat) (p : Nat → Int) (r : Nat) : Bool := @decide (ReachZ q n p r) (Classical.propDecidable _)
theorem mkM_iff {q n : Nat} {p : Nat → Int} {r : Nat} : mkM q n p r = true ↔ ReachZ q n p r := by unfold mkM; simp
noncomputable def leftZ (D : DkZ) : Int := passZ D.2.2.1 (fun s => (D.2.2.2 s).toNat) (fun s => mkM (D.2.2.2 s).toNat D.1.1 D.1.2.1) D.1.2.1 D.1.2.2 D.1.1 0 (fun _ => 1)
def iaM (h : sw_H) (im : Option DkZ) : Prop := (im = none ∧ h.1 0 11 = zI 0) ∨ ∃ E, im = some E ∧ h.1 0 11 = zI 1 ∧ dkA h 16 E
def iaK (h : sw_H) (D : DkZ) : Prop := h.1 0 12 = zI 0 ∨ (h.1 0 12 = zI 1 ∧ tblA h (ansT D.1.1 D.1.2.1 D.1.2.2) ∧ srtZ (ansT D.1.1 D.1.2.1 D.1.2.2) ∧ h.1 31 6 = zI (fillT D.1.1 D.1.2.1 D.1.2.2).2 ∧ (fillT D.1.1 D.1.2.1 D.1.2.2).2 ≤ 44)
def iaL (h : sw_H) (D : DkZ) : Prop := h.1 0 13 = zI 0 ∨ (h.1 0 13 = zI 1 ∧ h.1 0 14 = zI (leftZ D))
def iaT (h : sw_H) (t : Nat × (Nat → Int)) : Prop := h.1 63 1 = zI t.1 ∧ ∀ i, i < t.1 → h.1 64 i = zI (t.2 i)
def iaS (h : sw_H) (z : (Nat → Int) × (Nat → Nat → Int64)) : Prop := ∀ j, j < 3 → h.1 75 j = zI (z.1 j) ∧ ∀ i : Nat, (i : Int) < z.1 j → h.2 (72 + j) i = z.2 j i
def iaF (h : sw_H) : Prop := (∀ s, s < 4 → ∃ k0 : Nat, h.1 (45 + 3 * s) 3 = zI k0) ∧ (∃ k0 : Nat, h.1 57 3 = zI k0) ∧ ∃ k0 : Nat, h.1 65 1 = zI k0
/-- the class's heap at a state -/
def IA (h : sw_H) (σ : SgZ) : Prop := dkA h 1 σ.1 ∧ iaM h σ.2.1 ∧ iaK h σ.1 ∧ iaL h σ.1 ∧ iaT h σ.2.2.1 ∧ iaS h σ.2.2.2 ∧ iaF h
theorem dkA_ag {h h2 : sw_H} {b : Nat} {D : DkZ} (V : dkA h b D) (A : ∀ a, b ≤ a → a < b + 15 → h2.1 a = h.1 a) : dkA h2 b D := by
  obtain ⟨v1, v2, v3, v4, v5⟩ := V
  refine ⟨by rw [A _ (by omega) (by omega)]; exact v1, fun i hi => by rw [A _ (by omega) (by omega), A _ (by omega) (by omega)]; exact v2 i hi, fun s hs => by rw [A _ (by omega) (by omega), A _ (by omega) (by omega)]; exact v3 s hs, by rw [A _ (by omega) (by omega)]; exact v4, fun i hi => by rw [A _ (by omega) (by omega)]; exact v5 i hi⟩
theorem iaM_ag {h h2 : sw_H} {im : Option DkZ} (V : iaM h im) (A0 : h2.1 0 11 = h.1 0 11) (A : ∀ a, 16 ≤ a → a < 31 → h2.1 a = h.1 a) : iaM h2 im := by
  rcases V with ⟨v1, v2⟩ | ⟨E, v1, v2, v3⟩
  · exact Or.inl ⟨v1, by rw [A0]; exact v2⟩
  · exact Or.inr ⟨E, v1, by rw [A0]; exact v2, dkA_ag v3 (fun a h1 h2 => A a h1 (by omega))⟩
theorem tblA_ag {h h2 : sw_H} {T : TbZ} (V : tblA h T) (A : ∀ a, 31 ≤ a → a < 35 → h2.1 a = h.1 a ∧ h2.2 a = h.2 a) : tblA h2 T := by
  obtain ⟨v1, v2, v3⟩ := V
  refine ⟨by rw [(A 31 (by omega) (by omega)).1]; exact v1, v2, fun i hi => ?_⟩
  rw [(A 32 (by omega) (by omega)).2, (A 33 (by omega) (by omega)).2, (A 34 (by omega) (by omega)).1]
  exact v3 i hi
theorem iaK_ag {h h2 : sw_H} {D : DkZ} (V : iaK h D) (A0 : h2.1 0 12 = h.1 0 12) (A : ∀ a, 31 ≤ a → a < 35 → h2.1 a = h.1 a ∧ h2.2 a = h.2 a) : iaK h2 D := by
  rcases V with v | ⟨v1, v2, v3, v4, v5⟩
  · exact Or.inl (by rw [A0]; exact v)
  · exact Or.inr ⟨by rw [A0]; exact v1, tblA_ag v2 A, v3, by rw [(A 31 (by omega) (by omega)).1]; exact v4, v5⟩
theorem iaL_ag {h h2 : sw_H} {D : DkZ} (V : iaL h D) (A0 : h2.1 0 13 = h.1 0 13) (A1 : h2.1 0 14 = h.1 0 14) : iaL h2 D := by
  rcases V with v | ⟨v1, v2⟩
  · exact Or.inl (by rw [A0]; exact v)
  · exact Or.inr ⟨by rw [A0]; exact v1, by rw [A1]; exact v2⟩
theorem iaT_ag {h h2 : sw_H} {t : Nat × (Nat → Int)} (V : iaT h t) (A : ∀ a, 63 ≤ a → a < 65 → h2.1 a = h.1 a) : iaT h2 t :=
  ⟨by rw [A 63 (by omega) (by omega)]; exact V.1, fun i hi => by rw [A 64 (by omega) (by omega)]; exact V.2 i hi⟩
theorem iaS_ag {h h2 : sw_H} {z : (Nat → Int) × (Nat → Nat → Int64)} (V : iaS h z) (A : ∀ a, 72 ≤ a → a < 76 → h2.1 a = h.1 a ∧ h2.2 a = h.2 a) : iaS h2 z :=
  fun j hj => ⟨by rw [(A 75 (by omega) (by omega)).1]; exact (V j hj).1, fun i hi => by rw [(A (72 + j) (by omega) (by omega)).2]; exact (V j hj).2 i hi⟩
theorem iaF_ag {h h2 : sw_H} (V : iaF h) (A : ∀ a, (45 ≤ a ∧ a < 58) ∨ a = 65 → h2.1 a = h.1 a) : iaF h2 :=
  ⟨fun s hs => by rw [A _ (by omega)]; exact V.1 s hs, by rw [A 57 (by omega)]; exact V.2.1, by rw [A 65 (by omega)]; exact V.2.2⟩
/-- cells that no part of the state speaks of: work, split, spelling's row, reader -/
def sideC (a : Nat) : Prop := a = 35 ∨ a = 36 ∨ (37 ≤ a ∧ a < 45) ∨ (58 ≤ a ∧ a < 63) ∨ (66 ≤ a ∧ a < 72)
theorem IA_side {h h2 : sw_H} {σ : SgZ} (I : IA h σ) (A : ∀ a, ¬ sideC a → h2.1 a = h.1 a ∧ h2.2 a = h.2 a) : IA h2 σ := by
  obtain ⟨i1, i2, i3, i4, i5, i6, i7⟩ := I
  have B : ∀ a, ¬ sideC a → h2.1 a = h.1 a := fun a ha => (A a ha).1
  refine ⟨dkA_ag i1 (fun a h1 h2 => B a (by unfold sideC; omega)), iaM_ag i2 (by rw [B 0 (by unfold sideC; omega)]) (fun a h1 h2 => B a (by unfold sideC; omega)), iaK_ag i3 (by rw [B 0 (by unfold sideC; omega)]) (fun a h1 h2 => A a (by unfold sideC; omega)), iaL_ag i4 (by rw [B 0 (by unfold sideC; omega)]) (by rw [B 0 (by unfold sideC; omega)]), iaT_ag i5 (fun a h1 h2 => B a (by unfold sideC; omega)), iaS_ag i6 (fun a h1 h2 => A a (by unfold sideC; omega)), iaF_ag i7 (fun a h1 => B a (by unfold sideC; omega))⟩
theorem IA_B {h : sw_H} {σ : SgZ} (K : okS σ) (I : IA h σ) : atB h 2 3 4 σ.1.1.1 σ.1.1.2.1 σ.1.1.2.2 := by
  obtain ⟨v1, v2, -⟩ := I.1
  obtain ⟨k1, k2, k3, k4, k5⟩ := K.1.1
  exact ⟨v1, k1, fun i hi => ⟨(v2 i hi).1, (k2 i hi).2⟩, fun i hi => ⟨(v2 i hi).2, k5 i hi⟩⟩
theorem IA_U {h : sw_H} {σ : SgZ} (K : okS σ) (I : IA h σ) {s : Nat} (hs : s < 4) : h.1 (8 + 2 * s) 1 = zI (σ.1.2.1.1 s) ∧ (σ.1.2.1.1 s = 1 ∨ σ.1.2.1.1 s = -1) ∧ ∀ i, i < 4 → h.1 (9 + 2 * s) i = zI (σ.1.2.1.2 s i) ∧ -6 ≤ σ.1.2.1.2 s i ∧ σ.1.2.1.2 s i ≤ 6 := by
  obtain ⟨-, -, v3, -⟩ := I.1
  have k := K.1.2.1 s hs
  have v := v3 s hs
  refine ⟨?_, k.1, fun i hi => ⟨?_, (k.2 i hi).1, (k.2 i hi).2.1⟩⟩
  · have := v.1; rw [show 1 + 7 + 2 * s = 8 + 2 * s by omega] at this; exact this
  · have := v.2 i hi; rw [show 1 + 8 + 2 * s = 9 + 2 * s by omega] at this; exact this
-- small helpers of the class
section sw_help
variable {w : sw_W} {X : sw_X} {l : Launch} {d : Nat} {h : sw_H}
theorem c_isShelf {s : Int} (s1 : -2147483648 ≤ s) (s2 : s < 2147483648) : sw_ct w X l d mX11_isShelf [.int (zI s)] h (sw_qI w X fun r h2 => h2 = h ∧ r = zI (if 0 ≤ s ∧ s < 4 then 1 else 0)) := by
  refine sw_ct_of (by decide +kernel) (Nat.le_of_ble_eq_true rfl) rfl ?_
  refine sw_iload_n 1 dX11_isShelf_0 rfl rfl rfl ?_
  refine sw_if_lt 13 4 dX11_isShelf_1 (by decide) rfl (fun c1 => ?_) (fun c1 => ?_)
  · refine sw_iconst (v := zI 0) 14 dX11_isShelf_13 rfl (by decide) ?_
    exact sw_zret (by first | exact Or.inl rfl | exact Or.inr rfl | assumption) dX11_isShelf_14 rfl (⟨rfl, by
  rw [z0, zI_lt (by omega) (by omega) (by omega) (by omega)] at c1
  try rw [zI_le (by omega) (by omega) (by omega) (by omega)] at c6
  first | rw [if_pos (by omega)] | rw [if_neg (by omega)]⟩)
  · refine sw_iload_n 5 dX11_isShelf_4 rfl rfl rfl ?_
    refine sw_iconst (v := zI 4) 6 dX11_isShelf_5 rfl (by decide) ?_
    refine sw_icmp_ge 13 9 dX11_isShelf_6 (by decide) rfl (fun c6 => ?_) (fun c6 => ?_)
    · refine sw_iconst (v := zI 0) 14 dX11_isShelf_13 rfl (by decide) ?_
      exact sw_zret (by first | exact Or.inl rfl | exact Or.inr rfl | assumption) dX11_isShelf_14 rfl (⟨rfl, by
  rw [z0, zI_lt (by omega) (by omega) (by omega) (by omega)] at c1
  try rw [zI_le (by omega) (by omega) (by omega) (by omega)] at c6
  first | rw [if_pos (by omega)] | rw [if_neg (by omega)]⟩)
    · refine sw_iconst (v := zI 1) 10 dX11_isShelf_9 rfl (by decide) ?_
      refine sw_goto 14 dX11_isShelf_10 (by decide) ?_
      exact sw_zret (by first | exact Or.inl rfl | exact Or.inr rfl | assumption) dX11_isShelf_14 rfl (⟨rfl, by
  rw [z0, zI_lt (by omega) (by omega) (by omega) (by omega)] at c1
  try rw [zI_le (by omega) (by omega) (by omega) (by omega)] at c6
  first | rw [if_pos (by omega)] | rw [if_neg (by omega)]⟩)
theorem c_isList {s : Int} (s1 : -2147483648 ≤ s) (s2 : s < 2147483648) : sw_ct w X l d mX11_isList [.int (zI s)] h (sw_qI w X fun r h2 => h2 = h ∧ r = zI (if 0 ≤ s ∧ s < 3 then 1 else 0)) := by
  refine sw_ct_of (by decide +kernel) (Nat.le_of_ble_eq_true rfl) rfl ?_
  refine sw_iload_n 1 dX11_isList_0 rfl rfl rfl ?_
  refine sw_if_lt 13 4 dX11_isList_1 (by decide) rfl (fun c1 => ?_) (fun c1 => ?_)
  · refine sw_iconst (v := zI 0) 14 dX11_isList_13 rfl (by decide) ?_
    exact sw_zret (by first | exact Or.inl rfl | exact Or.inr rfl | assumption) dX11_isList_14 rfl (⟨rfl, by
  rw [z0, zI_lt (by omega) (by omega) (by omega) (by omega)] at c1
  try rw [zI_le (by omega) (by omega) (by omega) (by omega)] at c6
  first | rw [if_pos (by omega)] | rw [if_neg (by omega)]⟩)
  · refine sw_iload_n 5 dX11_isList_4 rfl rfl rfl ?_
    refine sw_iconst (v := zI 3) 6 dX11_isList_5 rfl (by decide) ?_
    refine sw_icmp_ge 13 9 dX11_isList_6 (by decide) rfl (fun c6 => ?_) (fun c6 => ?_)
    · refine sw_iconst (v := zI 0) 14 dX11_isList_13 rfl (by decide) ?_
      exact sw_zret (by first | exact Or.inl rfl | exact Or.inr rfl | assumption) dX11_isList_14 rfl (⟨rfl, by
  rw [z0, zI_lt (by omega) (by omega) (by omega) (by omega)] at c1
  try rw [zI_le (by omega) (by omega) (by omega) (by omega)] at c6
  first | rw [if_pos (by omega)] | rw [if_neg (by omega)]⟩)
    · refine sw_iconst (v := zI 1) 10 dX11_isList_9 rfl (by decide) ?_
      refine sw_goto 14 dX11_isList_10 (by decide) ?_
      exact sw_zret (by first | exact Or.inl rfl | exact Or.inr rfl | assumption) dX11_isList_14 rfl (⟨rfl, by
  rw [z0, zI_lt (by omega) (by omega) (by omega) (by omega)] at c1
  try rw [zI_le (by omega) (by omega) (by omega) (by omega)] at c6
  first | rw [if_pos (by omega)] | rw [if_neg (by omega)]⟩)
theorem c_isPart {s : Int} (s1 : -2147483648 ≤ s) (s2 : s < 2147483648) : sw_ct w X l d mX11_isPart [.int (zI s)] h (sw_qI w X fun r h2 => h2 = h ∧ r = zI (if s = 0 ∨ s = 1 then 1 else 0)) := by
  refine sw_ct_of (by decide +kernel) (Nat.le_of_ble_eq_true rfl) rfl ?_
  refine sw_iload_n 1 dX11_isPart_0 rfl rfl rfl ?_
  refine sw_if_eq 9 4 dX11_isPart_1 (by decide) rfl (fun c1 => ?_) (fun c1 => ?_)
  · refine sw_iconst (v := zI 1) 10 dX11_isPart_9 rfl (by decide) ?_
    refine sw_goto 14 dX11_isPart_10 (by decide) ?_
    exact sw_zret (by first | exact Or.inl rfl | exact Or.inr rfl | assumption) dX11_isPart_14 rfl (⟨rfl, by
  rw [z0, zI_eq (by omega) (by omega) (by omega) (by omega)] at c1
  try rw [zI_eq (by omega) (by omega) (by omega) (by omega)] at c6
  first | rw [if_pos (by omega)] | rw [if_neg (by omega)]⟩)
  · refine sw_iload_n 5 dX11_isPart_4 rfl rfl rfl ?_
    refine sw_iconst (v := zI 1) 6 dX11_isPart_5 rfl (by decide) ?_
    refine sw_icmp_ne 13 9 dX11_isPart_6 (by decide) rfl (fun c6 => ?_) (fun c6 => ?_)
    · refine sw_iconst (v := zI 0) 14 dX11_isPart_13 rfl (by decide) ?_
      exact sw_zret (by first | exact Or.inl rfl | exact Or.inr rfl | assumption) dX11_isPart_14 rfl (⟨rfl, by
  rw [z0, zI_eq (by omega) (by omega) (by omega) (by omega)] at c1
  try rw [zI_eq (by omega) (by omega) (by omega) (by omega)] at c6
  first | rw [if_pos (by omega)] | rw [if_neg (by omega)]⟩)
    · refine sw_iconst (v := zI 1) 10 dX11_isPart_9 rfl (by decide) ?_
      refine sw_goto 14 dX11_isPart_10 (by decide) ?_
      exact sw_zret (by first | exact Or.inl rfl | exact Or.inr rfl | assumption) dX11_isPart_14 rfl (⟨rfl, by
  rw [z0, zI_eq (by omega) (by omega) (by omega) (by omega)] at c1
  try rw [zI_eq (by omega) (by omega) (by omega) (by omega)] at c6
  first | rw [if_pos (by omega)] | rw [if_neg (by omega)]⟩)
def nodiv (v : Int) : Nat → Nat → Bool
  | 0, _ => true
  | c + 1, d => if v % d = 0 then false else nodiv v c (d + 1)
theorem nodiv_pr : ∀ v : Fin 98, 2 ≤ v.val → nodiv (v.val : Int) (v.val - 2) 2 = isPr (v.val : Int) := by decide +kernel
def prmZ (v lo hi : Int) : Bool := decide (lo ≤ v ∧ v ≤ hi) && isPr v
theorem c_isPrimeWithin {v lo hi : Int} (v1 : -2147483648 ≤ v) (v2 : v < 2147483648) (l1 : 2 ≤ lo) (l2 : lo < 1000) (h1 : hi ≤ 97) (h2 : 0 ≤ hi) : sw_ct w X l d mX11_isPrimeWithin [.int (zI v), .int (zI lo), .int (zI hi)] h (sw_qI w X fun r h2 => h2 = h ∧ r = bI (prmZ v lo hi)) := by
  refine sw_ct_of (by decide +kernel) (Nat.le_of_ble_eq_true rfl) rfl ?_
  have loop : lo ≤ v → v ≤ hi → ∀ (c j : Nat), (j : Int) + c = v → 2 ≤ j → nodiv v c j = isPr v → sw_wp w X l d mX11_isPrimeWithin (sw_qI w X fun r h2 => h2 = h ∧ r = bI (prmZ v lo hi)) 14 [(0, .int (zI v)), (1, .int (zI lo)), (2, .int (zI hi)), (3, .int (zI j))] [] h := by
    intro hl hh c
    have hp : prmZ v lo hi = isPr v := by unfold prmZ; rw [decide_eq_true ⟨hl, hh⟩]; rfl
    induction c with
    | zero =>
      intro j hj hj2 hn
      refine sw_iload_n 15 dX11_isPrimeWithin_14 rfl rfl rfl ?_
      refine sw_iload_n 16 dX11_isPrimeWithin_15 rfl rfl rfl ?_
      refine sw_icmp_ge 33 19 dX11_isPrimeWithin_16 (by decide) rfl (fun c16 => ?_) (fun c16 => ?_)
      · refine sw_iconst (v := zI 1) 34 dX11_isPrimeWithin_33 rfl (by decide) ?_
        exact sw_zret (by first | exact Or.inl rfl | exact Or.inr rfl | assumption) dX11_isPrimeWithin_34 rfl (⟨rfl, by rw [hp, ← hn]; rfl⟩)
      · exact absurd (by rw [zI_le (by omega) (by omega) (by omega) (by omega)]; omega) c16
    | succ c ih =>
      intro j hj hj2 hn
      have hz : ¬ zI (j : Nat) = 0 := by rw [z0, zI_eq (by omega) (by omega) (by omega) (by omega)]; omega
      have le : nodiv v (c + 1) j = if v % j = 0 then false else nodiv v c (j + 1) := rfl
      have hm0 : 0 ≤ v % (j : Int) := Int.emod_nonneg _ (by omega)
      have hm1 : v % (j : Int) < j := Int.emod_lt_of_pos _ (by omega)
      refine sw_iload_n 15 dX11_isPrimeWithin_14 rfl rfl rfl ?_
      refine sw_iload_n 16 dX11_isPrimeWithin_15 rfl rfl rfl ?_
      refine sw_icmp_ge 33 19 dX11_isPrimeWithin_16 (by decide) rfl (fun c16 => ?_) (fun c16 => ?_)
      · exact absurd c16 (by rw [zI_le (by omega) (by omega) (by omega) (by omega)]; omega)
      · refine sw_iload_n 20 dX11_isPrimeWithin_19 rfl rfl rfl ?_
        refine sw_iload_n 21 dX11_isPrimeWithin_20 rfl rfl rfl ?_
        refine sw_irem 22 dX11_isPrimeWithin_21 rfl (by first | assumption | decide) ?_
        rw [zI_rem (by omega) (by omega) (by omega) (by omega), Int.tmod_eq_emod_of_nonneg (by omega)]
        refine sw_if_ne 27 25 dX11_isPrimeWithin_22 (by decide) rfl (fun c22 => ?_) (fun c22 => ?_)
        · rw [z0, zI_eq (by omega) (by omega) (by omega) (by omega)] at c22
          refine sw_iinc (v := zI 1) (lc' := [(0, _), (1, _), (2, _), (3, _)]) 30 dX11_isPrimeWithin_27 rfl (by decide) rfl rfl rfl ?_
          refine sw_goto 14 dX11_isPrimeWithin_30 (by decide) ?_
          rw [zI_add]
          exact ih (j + 1) (by omega) (by omega) (by rw [← hn, le, if_neg c22])
        · rw [z0, zI_eq (by omega) (by omega) (by omega) (by omega)] at c22
          refine sw_iconst (v := zI 0) 26 dX11_isPrimeWithin_25 rfl (by decide) ?_
          exact sw_zret (by first | exact Or.inl rfl | exact Or.inr rfl | assumption) dX11_isPrimeWithin_26 rfl (⟨rfl, by rw [hp, ← hn, le, if_pos c22]; rfl⟩)
  refine sw_iload_n 1 dX11_isPrimeWithin_0 rfl rfl rfl ?_
  refine sw_iload_n 2 dX11_isPrimeWithin_1 rfl rfl rfl ?_
  refine sw_icmp_lt 10 5 dX11_isPrimeWithin_2 (by decide) rfl (fun c2 => ?_) (fun c2 => ?_)
  · refine sw_iconst (v := zI 0) 11 dX11_isPrimeWithin_10 rfl (by decide) ?_
    exact sw_zret (by first | exact Or.inl rfl | exact Or.inr rfl | assumption) dX11_isPrimeWithin_11 rfl (⟨rfl, by
  rw [zI_lt (by omega) (by omega) (by omega) (by omega)] at c2
  unfold prmZ; rw [decide_eq_false (by omega)]; rfl⟩)
  · rw [zI_lt (by omega) (by omega) (by omega) (by omega)] at c2
    refine sw_iload_n 6 dX11_isPrimeWithin_5 rfl rfl rfl ?_
    refine sw_iload_n 7 dX11_isPrimeWithin_6 rfl rfl rfl ?_
    refine sw_icmp_le 12 10 dX11_isPrimeWithin_7 (by decide) rfl (fun c7 => ?_) (fun c7 => ?_)
    · refine sw_iconst (v := zI 2) 13 dX11_isPrimeWithin_12 rfl (by decide) ?_
      refine sw_istore_n (lc' := [(0, _), (1, _), (2, _), (3, _)]) 14 dX11_isPrimeWithin_13 rfl rfl (by decide) rfl ?_
      rw [zI_le (by omega) (by omega) (by omega) (by omega)] at c7
      refine loop (by omega) (by omega) (v.toNat - 2) 2 (by omega) (by omega) ?_
      have h9 := nodiv_pr ⟨v.toNat, by omega⟩ (by show 2 ≤ v.toNat; omega)
      rw [show ((v.toNat : Nat) : Int) = v by omega] at h9
      exact h9
    · refine sw_iconst (v := zI 0) 11 dX11_isPrimeWithin_10 rfl (by decide) ?_
      exact sw_zret (by first | exact Or.inl rfl | exact Or.inr rfl | assumption) dX11_isPrimeWithin_11 rfl (⟨rfl, by
  rw [zI_le (by omega) (by omega) (by omega) (by omega)] at c7
  unfold prmZ; rw [decide_eq_false (by omega)]; rfl⟩)
theorem c_primesChanged : sw_ct wA X l d mX11_primesChanged [.ref 0] h (sw_qV wA X fun h2 => h2 = sw_wI (sw_wI h 0 12 (zI 0)) 0 13 (zI 0)) := by
  refine sw_ct_of (by decide +kernel) (Nat.le_of_ble_eq_true rfl) rfl ?_
  refine sw_aload_n 1 dX11_primesChanged_0 rfl rfl rfl ?_
  refine sw_iconst (v := zI 0) 2 dX11_primesChanged_1 rfl (by decide) ?_
  refine sw_putZ 5 (by first | exact Or.inl rfl | exact Or.inr rfl | assumption) dX11_primesChanged_2 rfl pf_RX11_339 rfl ⟨by decide, rfl⟩ ?_
  refine sw_aload_n 6 dX11_primesChanged_5 rfl rfl rfl ?_
  refine sw_iconst (v := zI 0) 7 dX11_primesChanged_6 rfl (by decide) ?_
  refine sw_putZ 10 (by first | exact Or.inl rfl | exact Or.inr rfl | assumption) dX11_primesChanged_7 rfl pf_RX11_239 rfl ⟨by decide, rfl⟩ ?_
  exact sw_vret dX11_primesChanged_10 rfl (rfl)
end sw_help
