/-! SIFTER (in the class's world): 37, moduli 38 (45, 48, 51, 54), products 39 (40 .. 44) -/
def agI (lo hi : Nat) (h h2 : sw_H) : Prop := (∀ a, a < lo ∨ hi ≤ a → h2.1 a = h.1 a) ∧ h2.2 = h.2
theorem agI_rf {lo hi : Nat} {h : sw_H} : agI lo hi h h := ⟨fun _ _ => rfl, rfl⟩
theorem agI_tr {lo hi : Nat} {h h2 h3 : sw_H} (a : agI lo hi h h2) (b : agI lo hi h2 h3) : agI lo hi h h3 := ⟨fun x hx => (b.1 x hx).trans (a.1 x hx), b.2.trans a.2⟩
theorem agI_wide {lo hi lo' hi' : Nat} {h h2 : sw_H} (a : agI lo hi h h2) (h1 : lo' ≤ lo) (h3 : hi ≤ hi') : agI lo' hi' h h2 := ⟨fun x hx => a.1 x (by omega), a.2⟩
theorem agI_pI {lo hi a : Nat} {h : sw_H} {f : Nat → Int32} (h1 : lo ≤ a) (h2 : a < hi) : agI lo hi h (sw_pI h a f) := ⟨fun x hx => sw_pI_ne (by omega), rfl⟩
theorem agI_wI {lo hi a k : Nat} {h : sw_H} {x : Int32} (h1 : lo ≤ a) (h2 : a < hi) : agI lo hi h (sw_wI h a k x) := ⟨fun x hx => sw_wI_ne (by omega), rfl⟩
theorem rf_mod {j : Nat} (hj : j < 4) : wA.2.2 38 (zI j).toNatClampNeg = 45 + 3 * j := by
  have : j = 0 ∨ j = 1 ∨ j = 2 ∨ j = 3 := by omega
  rcases this with rfl | rfl | rfl | rfl <;> rfl
theorem isM_sif {j : Nat} (hj : j < 4) : isM wA (45 + 3 * j) (46 + 3 * j) (47 + 3 * j) := by
  have : j = 0 ∨ j = 1 ∨ j = 2 ∨ j = 3 := by omega
  rcases this with rfl | rfl | rfl | rfl <;> exact ⟨⟨by decide, rfl⟩, rfl, rfl, ⟨by decide, rfl⟩, ⟨by decide, rfl⟩, by decide, by decide, by decide⟩
theorem rf_prod {j : Nat} (hj : j < 5) : wA.2.2 39 (zI j).toNatClampNeg = 40 + j := by
  have : j = 0 ∨ j = 1 ∨ j = 2 ∨ j = 3 ∨ j = 4 := by omega
  rcases this with rfl | rfl | rfl | rfl | rfl <;> rfl
theorem sh_prod {j : Nat} (hj : j < 5) : sw_r wA (40 + j) 0 4 := by
  have : j = 0 ∨ j = 1 ∨ j = 2 ∨ j = 3 ∨ j = 4 := by omega
  rcases this with rfl | rfl | rfl | rfl | rfl <;> exact ⟨by decide, rfl⟩
def cauZ (q : Nat → Nat) (m : Nat → Nat → Bool) (sg : Int) (v : Nat → Int) : Nat → Nat → Bool
  | 0, _ => false
  | c + 1, s => if m s ((1 - sg * v s) % q s).toNat then cauZ q m sg v c (s + 1) else true
def signsZ (k : Nat) (q : Nat → Nat) (m : Nat → Nat → Bool) (v : Nat → Int) : Int := 2 - (if cauZ q m 1 v k 0 then 1 else 0) - (if cauZ q m (-1) v k 0 then 1 else 0)
def sumZ (F : (Nat → Int) → Int) (q : Nat → Nat) (p : Int) : Nat → (Nat → Int) → Int
  | 0, _ => 0
  | c + 1, v => F v + sumZ F q p c (fun s => v s * p % q s)
def passZ (k : Nat) (q : Nat → Nat) (m : Nat → Nat → Bool) (p bx : Nat → Int) : Nat → Nat → (Nat → Int) → Int
  | 0, _, v => signsZ k q m v
  | f + 1, i, v => sumZ (passZ k q m p bx f (i + 1)) q (p i) (2 * bx i + 1).toNat (fun s => v s * powM (q s) (p i) ((-bx i) % (q s - 1 : Nat)).toNat % q s)
/-- what a sift rests on -/
def invF (h : sw_H) (n : Nat) (p bx : Nat → Int) (k : Nat) (q : Nat → Nat) (m : Nat → Nat → Bool) : Prop := atB h 2 3 4 n p bx ∧ h.1 37 2 = zI k ∧ k ≤ 4 ∧ ∀ s, s < k → h.1 (45 + 3 * s) 2 = zI (q s) ∧ 3 ≤ q s ∧ q s ≤ 97 ∧ ∀ r, r < q s → h.1 (46 + 3 * s) r = bI (m s r)
theorem invF_ag {h h2 : sw_H} {n : Nat} {p bx : Nat → Int} {k : Nat} {q : Nat → Nat} {m : Nat → Nat → Bool} (I : invF h n p bx k q m) (A : agI 40 45 h h2) : invF h2 n p bx k q m := by
  obtain ⟨⟨b1, b2, b3, b4⟩, i2, i3, i4⟩ := I
  refine ⟨⟨?_, b2, fun i hi => ?_, fun i hi => ?_⟩, ?_, i3, fun s hs => ?_⟩
  · rw [A.1 2 (by omega)]; exact b1
  · rw [A.1 3 (by omega)]; exact b3 i hi
  · rw [A.1 4 (by omega)]; exact b4 i hi
  · rw [A.1 37 (by omega)]; exact i2
  · rw [A.1 (45 + 3 * s) (by omega), A.1 (46 + 3 * s) (by omega)]; exact i4 s hs
section sw_sift
variable {X : sw_X} {l : Launch} {d : Nat} {n k : Nat} {p bx : Nat → Int} {q : Nat → Nat} {m : Nat → Nat → Bool}
theorem c_F_isCaught {h : sw_H} (I : invF h n p bx k q m) {L : Nat} (hL : L < 5) {v : Nat → Int} (hv : ∀ s, s < k → h.1 (40 + L) s = zI (v s) ∧ 0 ≤ v s ∧ v s < q s) {sg : Int} (hsg : sg = 1 ∨ sg = -1) : sw_ct wA X l (d + 2) mX8_isCaught [.ref 37, .ref (40 + L), .int (zI sg)] h (sw_qI wA X fun r h2 => h2 = h ∧ r = zI (if cauZ q m sg v k 0 then 1 else 0)) := by
  obtain ⟨i1, i2, i3, i4⟩ := I
  have hsh := sh_prod hL
  refine sw_ct_of (by decide +kernel) (Nat.le_of_ble_eq_true rfl) rfl ?_
  have loop : ∀ c j : Nat, j + c = k → sw_wp wA X l (d + 2) mX8_isCaught (sw_qI wA X fun r h2 => h2 = h ∧ r = zI (if cauZ q m sg v c j then 1 else 0)) 2 [(0, .ref 37), (1, .ref (40 + L)), (2, .int (zI sg)), (3, .int (zI j))] [] h := by
    intro c
    induction c with
    | zero =>
      intro j hj
      have : j = k := by omega
      subst this
      refine sw_iload_n 3 dX8_isCaught_2 rfl rfl rfl ?_
      refine sw_aload_n 4 dX8_isCaught_3 rfl rfl rfl ?_
      refine sw_getI 7 dX8_isCaught_4 rfl gf_RX8_29 rfl ⟨by decide, rfl⟩ ?_
      rw [i2]
      refine sw_icmp_ge 35 10 dX8_isCaught_7 (by decide) rfl (fun c7 => ?_) (fun c7 => ?_)
      · refine sw_iconst (v := zI 0) 36 dX8_isCaught_35 rfl (by decide) ?_
        exact sw_zret (by first | exact Or.inl rfl | exact Or.inr rfl | assumption) dX8_isCaught_36 rfl (⟨rfl, rfl⟩)
      · exact absurd (Int32.le_refl _) c7
    | succ c ih =>
      intro j hj
      have hin : vp_in (zI j) 4 := zI_inN (by omega) (by omega)
      have hrf := rf_mod (j := j) (by omega)
      have hM := isM_sif (j := j) (by omega)
      have hM1 := hM.1
      obtain ⟨a1, a2, a3, a4⟩ := i4 j (by omega)
      have hvj := hv j (by omega)
      have hsv : -97 ≤ sg * v j ∧ sg * v j ≤ 97 := by rcases hsg with rfl | rfl <;> omega
      have le : cauZ q m sg v (c + 1) j = if m j ((1 - sg * v j) % q j).toNat then cauZ q m sg v c (j + 1) else true := rfl
      refine sw_iload_n 3 dX8_isCaught_2 rfl rfl rfl ?_
      refine sw_aload_n 4 dX8_isCaught_3 rfl rfl rfl ?_
      refine sw_getI 7 dX8_isCaught_4 rfl gf_RX8_29 rfl ⟨by decide, rfl⟩ ?_
      rw [i2]
      refine sw_icmp_ge 35 10 dX8_isCaught_7 (by decide) rfl (fun c7 => ?_) (fun c7 => ?_)
      · exact absurd c7 (by rw [zI_le (by omega) (by omega) (by omega) (by omega)]; omega)
      · refine sw_aload_n 11 dX8_isCaught_10 rfl rfl rfl ?_
        refine sw_getR (b := 38) 14 dX8_isCaught_11 rfl gf_RX8_11 (fun _ _ _ _ => rfl) ⟨by decide, rfl⟩ rfl ?_
        refine sw_iload_n 15 dX8_isCaught_14 rfl rfl rfl ?_
        refine sw_aald (b := (45 + 3 * j)) (t := 1) 16 dX8_isCaught_15 rfl ⟨by decide, rfl⟩ (by decide) (by assumption) (by first | assumption | rfl) ?_
        refine sw_iload_n 17 dX8_isCaught_16 rfl rfl rfl ?_
        refine sw_aload_n 18 dX8_isCaught_17 rfl rfl rfl ?_
        refine sw_iload_n 19 dX8_isCaught_18 rfl rfl rfl ?_
        refine sw_iald 20 dX8_isCaught_19 rfl (by first | assumption | exact ⟨by decide, rfl⟩) (by assumption) ?_
        rw [zI_clampN (by omega), hvj.1]
        refine sw_imul 21 dX8_isCaught_20 rfl ?_
        rw [zI_mul]
        refine sw_invVI 24 dX8_isCaught_21 rfl lk_RX8_68 (c_M_letsPass hM a1 a2 a3 (m j) a4 (by omega) (by omega)) (by first | assumption | exact ⟨by decide, rfl⟩) rfl rfl (Nat.le_of_ble_eq_true rfl) (fun r21 h21 hq21 => ?_)
        obtain ⟨rfl, rfl⟩ := hq21
        refine sw_if_ne 29 27 dX8_isCaught_24 (by decide) rfl (fun c24 => ?_) (fun c24 => ?_)
        · refine sw_iinc (v := zI 1) (lc' := [(0, _), (1, _), (2, _), (3, _)]) 32 dX8_isCaught_29 rfl (by decide) rfl rfl rfl ?_
          refine sw_goto 2 dX8_isCaught_32 (by decide) ?_
          have hm : m j ((1 - sg * v j) % q j).toNat = true := by
            cases hm : m j ((1 - sg * v j) % q j).toNat with
            | true => rfl
            | false => rw [hm] at c24; exact absurd rfl c24
          rw [hm, if_pos rfl] at le
          rw [zI_add, le]
          exact ih (j + 1) (by omega)
        · have hm : m j ((1 - sg * v j) % q j).toNat = false := by
            cases hm : m j ((1 - sg * v j) % q j).toNat with
            | false => rfl
            | true => rw [hm] at c24; exact absurd c24 (by decide)
          rw [hm] at le
          refine sw_iconst (v := zI 1) 28 dX8_isCaught_27 rfl (by decide) ?_
          exact sw_zret (by first | exact Or.inl rfl | exact Or.inr rfl | assumption) dX8_isCaught_28 rfl (⟨rfl, by rw [le]; rfl⟩)
  refine sw_iconst (v := zI 0) 1 dX8_isCaught_0 rfl (by decide) ?_
  refine sw_istore_n (lc' := [(0, _), (1, _), (2, _), (3, _)]) 2 dX8_isCaught_1 rfl rfl (by decide) rfl ?_
  exact loop k 0 (by omega)
theorem c_F_passingSigns {h : sw_H} (I : invF h n p bx k q m) {L : Nat} (hL : L < 5) {v : Nat → Int} (hv : ∀ s, s < k → h.1 (40 + L) s = zI (v s) ∧ 0 ≤ v s ∧ v s < q s) : sw_ct wA X l (d + 3) mX8_passingSigns [.ref 37, .ref (40 + L)] h (sw_qI wA X fun r h2 => h2 = h ∧ r = zI (signsZ k q m v)) := by
  refine sw_ct_of (by decide +kernel) (Nat.le_of_ble_eq_true rfl) rfl ?_
  refine sw_iconst (v := zI 2) 1 dX8_passingSigns_0 rfl (by decide) ?_
  refine sw_istore_n (lc' := [(0, _), (1, _), (2, _)]) 2 dX8_passingSigns_1 rfl rfl (by decide) rfl ?_
  refine sw_aload_n 3 dX8_passingSigns_2 rfl rfl rfl ?_
  refine sw_aload_n 4 dX8_passingSigns_3 rfl rfl rfl ?_
  refine sw_iconst (v := zI 1) 5 dX8_passingSigns_4 rfl (by decide) ?_
  refine sw_invVI 8 dX8_passingSigns_5 rfl lk_RX8_64 (c_F_isCaught I hL hv (Or.inl rfl)) ⟨by decide, rfl⟩ rfl rfl (Nat.le_of_ble_eq_true rfl) (fun r5 h5 hq5 => ?_)
  obtain ⟨rfl, rfl⟩ := hq5
  refine sw_if_eq 14 11 dX8_passingSigns_8 (by decide) rfl (fun c8 => ?_) (fun c8 => ?_)
  · refine sw_aload_n 15 dX8_passingSigns_14 rfl rfl rfl ?_
    refine sw_aload_n 16 dX8_passingSigns_15 rfl rfl rfl ?_
    refine sw_iconst (v := zI (-1)) 17 dX8_passingSigns_16 rfl (by decide) ?_
    refine sw_invVI 20 dX8_passingSigns_17 rfl lk_RX8_64 (c_F_isCaught I hL hv (Or.inr rfl)) ⟨by decide, rfl⟩ rfl rfl (Nat.le_of_ble_eq_true rfl) (fun r17 h17 hq17 => ?_)
    obtain ⟨rfl, rfl⟩ := hq17
    refine sw_if_eq 26 23 dX8_passingSigns_20 (by decide) rfl (fun c20 => ?_) (fun c20 => ?_)
    · refine sw_iload_n 27 dX8_passingSigns_26 rfl rfl rfl ?_
      exact sw_iret dX8_passingSigns_27 rfl (⟨rfl, by
  have k8 : ∀ b : Bool, zI (if b then 1 else 0) = 0 → b = false := fun b z => by cases b; rfl; exact absurd z (by decide)
  have k9 : ∀ b : Bool, ¬ zI (if b then 1 else 0) = 0 → b = true := fun b z => by cases b; exact absurd rfl z; rfl
  unfold signsZ
  first | rw [k8 _ c8] | rw [k9 _ c8]
  first | rw [k8 _ c20] | rw [k9 _ c20]
  try simp only [zI_add]
  rfl⟩)
    · refine sw_iinc (v := zI (-1)) (lc' := [(0, _), (1, _), (2, _)]) 26 dX8_passingSigns_23 rfl (by decide) rfl rfl rfl ?_
      refine sw_iload_n 27 dX8_passingSigns_26 rfl rfl rfl ?_
      exact sw_iret dX8_passingSigns_27 rfl (⟨rfl, by
  have k8 : ∀ b : Bool, zI (if b then 1 else 0) = 0 → b = false := fun b z => by cases b; rfl; exact absurd z (by decide)
  have k9 : ∀ b : Bool, ¬ zI (if b then 1 else 0) = 0 → b = true := fun b z => by cases b; exact absurd rfl z; rfl
  unfold signsZ
  first | rw [k8 _ c8] | rw [k9 _ c8]
  first | rw [k8 _ c20] | rw [k9 _ c20]
  try simp only [zI_add]
  rfl⟩)
  · refine sw_iinc (v := zI (-1)) (lc' := [(0, _), (1, _), (2, _)]) 14 dX8_passingSigns_11 rfl (by decide) rfl rfl rfl ?_
    refine sw_aload_n 15 dX8_passingSigns_14 rfl rfl rfl ?_
    refine sw_aload_n 16 dX8_passingSigns_15 rfl rfl rfl ?_
    refine sw_iconst (v := zI (-1)) 17 dX8_passingSigns_16 rfl (by decide) ?_
    refine sw_invVI 20 dX8_passingSigns_17 rfl lk_RX8_64 (c_F_isCaught I hL hv (Or.inr rfl)) ⟨by decide, rfl⟩ rfl rfl (Nat.le_of_ble_eq_true rfl) (fun r17 h17 hq17 => ?_)
    obtain ⟨rfl, rfl⟩ := hq17
    refine sw_if_eq 26 23 dX8_passingSigns_20 (by decide) rfl (fun c20 => ?_) (fun c20 => ?_)
    · refine sw_iload_n 27 dX8_passingSigns_26 rfl rfl rfl ?_
      exact sw_iret dX8_passingSigns_27 rfl (⟨rfl, by
  have k8 : ∀ b : Bool, zI (if b then 1 else 0) = 0 → b = false := fun b z => by cases b; rfl; exact absurd z (by decide)
  have k9 : ∀ b : Bool, ¬ zI (if b then 1 else 0) = 0 → b = true := fun b z => by cases b; exact absurd rfl z; rfl
  unfold signsZ
  first | rw [k8 _ c8] | rw [k9 _ c8]
  first | rw [k8 _ c20] | rw [k9 _ c20]
  try simp only [zI_add]
  rfl⟩)
    · refine sw_iinc (v := zI (-1)) (lc' := [(0, _), (1, _), (2, _)]) 26 dX8_passingSigns_23 rfl (by decide) rfl rfl rfl ?_
      refine sw_iload_n 27 dX8_passingSigns_26 rfl rfl rfl ?_
      exact sw_iret dX8_passingSigns_27 rfl (⟨rfl, by
  have k8 : ∀ b : Bool, zI (if b then 1 else 0) = 0 → b = false := fun b z => by cases b; rfl; exact absurd z (by decide)
  have k9 : ∀ b : Bool, ¬ zI (if b then 1 else 0) = 0 → b = true := fun b z => by cases b; exact absurd rfl z; rfl
  unfold signsZ
  first | rw [k8 _ c8] | rw [k9 _ c8]
  first | rw [k8 _ c20] | rw [k9 _ c20]
  try simp only [zI_add]
  rfl⟩)
/-- passing, from a level on: only the rows beyond the level's change -/
theorem c_F_passing : ∀ (f i : Nat) (h : sw_H) (v : Nat → Int), i + f = n → invF h n p bx k q m → (∀ s, s < k → h.1 (40 + i) s = zI (v s) ∧ 0 ≤ v s ∧ v s < q s) → sw_ct wA X l (d + f + 4) mX8_passing [.ref 37, .ref 2, .int (zI i)] h (sw_qI wA X fun r h2 => agI (41 + i) 45 h h2 ∧ r = zI (passZ k q m p bx f i v)) := by
  intro f
  induction f with
  | zero =>
    intro i h v hi I hv
    have hi0 : i = n := by omega
    subst hi0
    have I0 := I
    obtain ⟨⟨b1, b2, b3, b4⟩, i2, i3, i4⟩ := I
    have hin : vp_in (zI i) 5 := zI_inN (by omega) (by omega)
    have hrf := rf_prod (j := i) (by omega)
    refine sw_ct_of (by decide +kernel) (Nat.le_of_ble_eq_true rfl) rfl ?_
    refine sw_iload_n 1 dX8_passing_0 rfl rfl rfl ?_
    refine sw_aload_n 2 dX8_passing_1 rfl rfl rfl ?_
    refine sw_getI 5 dX8_passing_2 rfl gf_RX8_44 rfl ⟨by decide, rfl⟩ ?_
    rw [b1]
    refine sw_icmp_lt 19 8 dX8_passing_5 (by decide) rfl (fun c5 => ?_) (fun c5 => ?_)
    · exact absurd c5 (by rw [zI_lt (by omega) (by omega) (by omega) (by omega)]; omega)
    · refine sw_aload_n 9 dX8_passing_8 rfl rfl rfl ?_
      refine sw_aload_n 10 dX8_passing_9 rfl rfl rfl ?_
      refine sw_getR (b := 39) 13 dX8_passing_10 rfl gf_RX8_19 (fun _ _ _ _ => rfl) ⟨by decide, rfl⟩ rfl ?_
      refine sw_iload_n 14 dX8_passing_13 rfl rfl rfl ?_
      refine sw_aald (b := (40 + i)) (t := 2) 15 dX8_passing_14 rfl ⟨by decide, rfl⟩ (by decide) (by assumption) (by first | assumption | rfl) ?_
      refine sw_invVI 18 dX8_passing_15 rfl lk_RX8_47 (c_F_passingSigns I0 (by omega) hv) ⟨by decide, rfl⟩ rfl rfl (Nat.le_of_ble_eq_true rfl) (fun r15 h15 hq15 => ?_)
      obtain ⟨rfl, rfl⟩ := hq15
      exact sw_iret dX8_passing_18 rfl (⟨agI_rf, rfl⟩)
  | succ f ihf =>
    intro i h v hi I hv
    have I0 := I
    obtain ⟨⟨b1, b2, b3, b4⟩, i2, i3, i4⟩ := I
    have hb3 := b3 i (by omega)
    have hb4 := b4 i (by omega)
    have hin4 : vp_in (zI i) 4 := zI_inN (by omega) (by omega)
    have hin : vp_in (zI i) 5 := zI_inN (by omega) (by omega)
    have ei1 : zI i + zI 1 = zI (i + 1 : Nat) := by rw [zI_add]; rfl
    have hin1 : vp_in (zI i + zI 1) 5 := by rw [ei1]; exact zI_inN (by omega) (by omega)
    have hrf := rf_prod (j := i) (by omega)
    have hrf1 : wA.2.2 39 (zI i + zI 1).toNatClampNeg = 40 + (i + 1) := by rw [ei1]; exact rf_prod (by omega)
    have hsh := sh_prod (j := i) (by omega)
    have hsh1 := sh_prod (j := i + 1) (by omega)
    refine sw_ct_of (by decide +kernel) (Nat.le_of_ble_eq_true rfl) rfl ?_
    generalize hQ : (sw_qI wA X fun r h2 => agI (41 + i) 45 h h2 ∧ r = zI (passZ k q m p bx (f + 1) i v)) = Qc
    -- the row behind, times p, for all sieves
    have mul : ∀ (c j : Nat) (g : sw_H) (u : Nat → Int) (tot pw : Int), j + c = k → agI (41 + i) 45 h g → (∀ s, s < k → 0 ≤ u s ∧ u s < q s) → (∀ s, s < k → g.1 (40 + (i + 1)) s = zI (if s < j then u s * p i % q s else u s)) →
        (∀ g', agI (41 + i) 45 h g' → (∀ s, s < k → g'.1 (40 + (i + 1)) s = zI (u s * p i % q s)) → sw_wp wA X l (d + (f + 1) + 4) mX8_passing Qc 175 [(0, .ref 37), (1, .ref 2), (2, .int (zI i)), (3, .int (zI (p i))), (4, .int (zI (bx i))), (5, .ref (40 + i)), (6, .ref (40 + (i + 1))), (7, .int (zI tot)), (8, .int (zI pw))] [] g') →
        sw_wp wA X l (d + (f + 1) + 4) mX8_passing Qc 137 [(0, .ref 37), (1, .ref 2), (2, .int (zI i)), (3, .int (zI (p i))), (4, .int (zI (bx i))), (5, .ref (40 + i)), (6, .ref (40 + (i + 1))), (7, .int (zI tot)), (8, .int (zI pw)), (9, .int (zI j))] [] g := by
      intro c
      induction c with
      | zero =>
        intro j g u tot pw hj A ub hu K
        have : j = k := by omega
        subst this
        refine sw_iload 139 dX8_passing_137 rfl rfl ?_
        refine sw_aload_n 140 dX8_passing_139 rfl rfl rfl ?_
        refine sw_getI 143 dX8_passing_140 rfl gf_RX8_29 rfl ⟨by decide, rfl⟩ ?_
        rw [A.1 37 (by omega), i2]
        refine sw_icmp_ge 175 146 dX8_passing_143 (by decide) rfl (fun c143 => ?_) (fun c143 => ?_)
        · exact sw_wp_sub (by simp) (K g A (fun s hs => by rw [hu s hs, if_pos hs]))
        · exact absurd (Int32.le_refl _) c143
      | succ c ih =>
        intro j g u tot pw hj A ub hu K
        have hinj : vp_in (zI j) 4 := zI_inN (by omega) (by omega)
        have hrfj := rf_mod (j := j) (by omega)
        have hM1 := (isM_sif (j := j) (by omega)).1
        obtain ⟨a1, a2, a3, a4⟩ := i4 j (by omega)
        have huj := hu j (by omega)
        rw [if_neg (by omega)] at huj
        have hubj := ub j (by omega)
        have hmb := mulM_b (a := u j) (p := p i) hubj.1 (by omega) (by omega) (by omega)
        have hz : ¬ zI (q j : Nat) = 0 := by rw [z0, zI_eq (by omega) (by omega) (by omega) (by omega)]; omega
        refine sw_iload 139 dX8_passing_137 rfl rfl ?_
        refine sw_aload_n 140 dX8_passing_139 rfl rfl rfl ?_
        refine sw_getI 143 dX8_passing_140 rfl gf_RX8_29 rfl ⟨by decide, rfl⟩ ?_
        rw [A.1 37 (by omega), i2]
        refine sw_icmp_ge 175 146 dX8_passing_143 (by decide) rfl (fun c143 => ?_) (fun c143 => ?_)
        · exact absurd c143 (by rw [zI_le (by omega) (by omega) (by omega) (by omega)]; omega)
        · refine sw_aload 148 dX8_passing_146 rfl rfl ?_
          refine sw_iload 150 dX8_passing_148 rfl rfl ?_
          refine sw_aload 152 dX8_passing_150 rfl rfl ?_
          refine sw_iload 154 dX8_passing_152 rfl rfl ?_
          refine sw_iald 155 dX8_passing_154 rfl (by first | assumption | exact ⟨by decide, rfl⟩) (by assumption) ?_
          rw [zI_clampN (by omega), huj]
          refine sw_iload_n 156 dX8_passing_155 rfl rfl rfl ?_
          refine sw_imul 157 dX8_passing_156 rfl ?_
          rw [zI_mul]
          refine sw_aload_n 158 dX8_passing_157 rfl rfl rfl ?_
          refine sw_getR (b := 38) 161 dX8_passing_158 rfl gf_RX8_11 (fun _ _ _ _ => rfl) ⟨by decide, rfl⟩ rfl ?_
          refine sw_iload 163 dX8_passing_161 rfl rfl ?_
          refine sw_aald (b := (45 + 3 * j)) (t := 1) 164 dX8_passing_163 rfl ⟨by decide, rfl⟩ (by decide) (by assumption) (by first | assumption | rfl) ?_
          refine sw_getI 167 dX8_passing_164 rfl gf_RX8_61 rfl (by first | assumption | exact ⟨by decide, rfl⟩) ?_
          rw [A.1 (45 + 3 * j) (by omega), a1]
          refine sw_irem 168 dX8_passing_167 rfl (by first | assumption | decide) ?_
          rw [zI_rem (by omega) (by omega) (by omega) (by omega), Int.tmod_eq_emod_of_nonneg (by omega)]
          refine sw_iast 169 dX8_passing_168 rfl (by first | assumption | exact ⟨by decide, rfl⟩) (by assumption) ?_
          refine sw_iinc (v := zI 1) (lc' := [(0, _), (1, _), (2, _), (3, _), (4, _), (5, _), (6, _), (7, _), (8, _), (9, _)]) 172 dX8_passing_169 rfl (by decide) rfl rfl rfl ?_
          refine sw_goto 137 dX8_passing_172 (by decide) ?_
          rw [zI_clampN (by omega), zI_add]
          refine ih (j + 1) _ u tot pw (by omega) (agI_tr A (agI_wI (by omega) (by omega))) ub (fun s hs => ?_) K
          rw [sw_wI_at]
          by_cases e : s = j
          · subst e; simp only [va_up, if_true]; rw [if_pos (by omega)]
          · simp only [va_up, if_neg e]; rw [hu s hs]
            have e2 : (s < j + 1) = (s < j) := by apply propext; omega
            simp only [e2]
    -- the powers
    have pows : ∀ (c : Nat) (pw tot : Int) (g : sw_H) (u : Nat → Int), pw + c = bx i + 1 → -4 ≤ pw → agI (41 + i) 45 h g → (∀ s, s < k → g.1 (40 + (i + 1)) s = zI (u s) ∧ 0 ≤ u s ∧ u s < q s) → passZ k q m p bx (f + 1) i v = tot + sumZ (passZ k q m p bx f (i + 1)) q (p i) c u → sw_wp wA X l (d + (f + 1) + 4) mX8_passing Qc 114 [(0, .ref 37), (1, .ref 2), (2, .int (zI i)), (3, .int (zI (p i))), (4, .int (zI (bx i))), (5, .ref (40 + i)), (6, .ref (40 + (i + 1))), (7, .int (zI tot)), (8, .int (zI pw))] [] g := by
      intro c
      induction c with
      | zero =>
        intro pw tot g u hc hpw A hu ht
        subst hQ
        refine sw_iload 116 dX8_passing_114 rfl rfl ?_
        refine sw_iload 118 dX8_passing_116 rfl rfl ?_
        refine sw_icmp_gt 181 121 dX8_passing_118 (by decide) rfl (fun c118 => ?_) (fun c118 => ?_)
        · refine sw_iload 183 dX8_passing_181 rfl rfl ?_
          exact sw_iret dX8_passing_183 rfl (⟨A, by rw [ht, show sumZ (passZ k q m p bx f (i + 1)) q (p i) 0 u = 0 from rfl, Int.add_zero]⟩)
        · exact absurd (by rw [zI_lt (by omega) (by omega) (by omega) (by omega)]; omega) c118
      | succ c ih =>
        intro pw tot g u hc hpw A hu ht
        have Ig : invF g n p bx k q m := invF_ag I0 (agI_wide A (by omega) (by omega))
        have su : sumZ (passZ k q m p bx f (i + 1)) q (p i) (c + 1) u = passZ k q m p bx f (i + 1) u + sumZ (passZ k q m p bx f (i + 1)) q (p i) c (fun s => u s * p i % q s) := rfl
        refine sw_iload 116 dX8_passing_114 rfl rfl ?_
        refine sw_iload 118 dX8_passing_116 rfl rfl ?_
        refine sw_icmp_gt 181 121 dX8_passing_118 (by decide) rfl (fun c118 => ?_) (fun c118 => ?_)
        · exact absurd c118 (by rw [zI_lt (by omega) (by omega) (by omega) (by omega)]; omega)
        · refine sw_iload 123 dX8_passing_121 rfl rfl ?_
          refine sw_aload_n 124 dX8_passing_123 rfl rfl rfl ?_
          refine sw_aload_n 125 dX8_passing_124 rfl rfl rfl ?_
          refine sw_iload_n 126 dX8_passing_125 rfl rfl rfl ?_
          refine sw_iconst (v := zI 1) 127 dX8_passing_126 rfl (by decide) ?_
          refine sw_iadd 128 dX8_passing_127 rfl ?_
          rw [ei1]
          refine sw_invSI 131 dX8_passing_128 rfl lk_RX8_40 (ihf (i + 1) g u (by omega) Ig hu) rfl rfl (Nat.le_of_ble_eq_true rfl) (fun r128 h128 hq128 => ?_)
          obtain ⟨A2, rfl⟩ := hq128
          have A3 : agI (41 + i) 45 h h128 := agI_tr A (agI_wide A2 (by omega) (by omega))
          refine sw_iadd 132 dX8_passing_131 rfl ?_
          rw [zI_add]
          refine sw_istore (lc' := [(0, _), (1, _), (2, _), (3, _), (4, _), (5, _), (6, _), (7, _), (8, _)]) 134 dX8_passing_132 rfl (by decide) rfl ?_
          refine sw_iconst (v := zI 0) 135 dX8_passing_134 rfl (by decide) ?_
          refine sw_istore (lc' := [(0, _), (1, _), (2, _), (3, _), (4, _), (5, _), (6, _), (7, _), (8, _), (9, _)]) 137 dX8_passing_135 rfl (by decide) rfl ?_
          refine mul k 0 h128 u _ pw (by omega) A3 (fun s hs => (hu s hs).2) (fun s hs => ?_) (fun g' A' hg' => ?_)
          · rw [if_neg (by omega), A2.1 _ (by omega)]; exact (hu s hs).1
          refine sw_iinc (v := zI 1) (lc' := [(0, _), (1, _), (2, _), (3, _), (4, _), (5, _), (6, _), (7, _), (8, _)]) 178 dX8_passing_175 rfl (by decide) rfl rfl rfl ?_
          refine sw_goto 114 dX8_passing_178 (by decide) ?_
          rw [zI_add]
          refine ih (pw + 1) _ g' (fun s => u s * p i % q s) (by omega) (by omega) A' (fun s hs => ⟨hg' s hs, Int.emod_nonneg _ ?_, Int.emod_lt_of_pos _ ?_⟩) (by rw [ht, su]; omega)
          · have := (i4 s hs).2.1; omega
          · have := (i4 s hs).2.1; omega
    -- the start of the row
    have start : ∀ (c j : Nat) (g : sw_H), j + c = k → agI (41 + i) 45 h g → (∀ s, s < j → g.1 (40 + (i + 1)) s = zI (v s * powM (q s) (p i) ((-bx i) % (q s - 1 : Nat)).toNat % q s)) → sw_wp wA X l (d + (f + 1) + 4) mX8_passing Qc 55 [(0, .ref 37), (1, .ref 2), (2, .int (zI i)), (3, .int (zI (p i))), (4, .int (zI (bx i))), (5, .ref (40 + i)), (6, .ref (40 + (i + 1))), (7, .int (zI j))] [] g := by
      intro c
      induction c with
      | zero =>
        intro j g hj A hg
        have : j = k := by omega
        subst this
        refine sw_iload 57 dX8_passing_55 rfl rfl ?_
        refine sw_aload_n 58 dX8_passing_57 rfl rfl rfl ?_
        refine sw_getI 61 dX8_passing_58 rfl gf_RX8_29 rfl ⟨by decide, rfl⟩ ?_
        rw [A.1 37 (by omega), i2]
        refine sw_icmp_ge 106 64 dX8_passing_61 (by decide) rfl (fun c61 => ?_) (fun c61 => ?_)
        · refine sw_iconst (v := zI 0) 107 dX8_passing_106 rfl (by decide) ?_
          refine sw_istore (lc' := [(0, _), (1, _), (2, _), (3, _), (4, _), (5, _), (6, _), (7, _)]) 109 dX8_passing_107 rfl (by decide) rfl ?_
          refine sw_iload 111 dX8_passing_109 rfl rfl ?_
          refine sw_ineg 112 dX8_passing_111 rfl ?_
          rw [zI_neg]
          refine sw_istore (lc' := [(0, _), (1, _), (2, _), (3, _), (4, _), (5, _), (6, _), (7, _), (8, _)]) 114 dX8_passing_112 rfl (by decide) rfl ?_
          refine pows (2 * bx i + 1).toNat (-bx i) 0 g _ (by omega) (by omega) A (fun s hs => ⟨hg s hs, Int.emod_nonneg _ ?_, Int.emod_lt_of_pos _ ?_⟩) (by rw [Int.zero_add]; rfl)
          · have := (i4 s hs).2.1; omega
          · have := (i4 s hs).2.1; omega
        · exact absurd (Int32.le_refl _) c61
      | succ c ih =>
        intro j g hj A hg
        have hinj : vp_in (zI j) 4 := zI_inN (by omega) (by omega)
        have hrfj := rf_mod (j := j) (by omega)
        have hM1 := (isM_sif (j := j) (by omega)).1
        obtain ⟨a1, a2, a3, a4⟩ := i4 j (by omega)
        have hvj := hv j (by omega)
        have hw := powM_b (q := q j) (p := p i) (by omega) ((-bx i) % (q j - 1 : Nat)).toNat
        have hmb := mulM_b hvj.2.1 (by omega) hw.1 (by omega)
        have hz : ¬ zI (q j : Nat) = 0 := by rw [z0, zI_eq (by omega) (by omega) (by omega) (by omega)]; omega
        have a1' : g.1 (45 + 3 * j) 2 = zI (q j) := by rw [A.1 (45 + 3 * j) (by omega)]; exact a1
        refine sw_iload 57 dX8_passing_55 rfl rfl ?_
        refine sw_aload_n 58 dX8_passing_57 rfl rfl rfl ?_
        refine sw_getI 61 dX8_passing_58 rfl gf_RX8_29 rfl ⟨by decide, rfl⟩ ?_
        rw [A.1 37 (by omega), i2]
        refine sw_icmp_ge 106 64 dX8_passing_61 (by decide) rfl (fun c61 => ?_) (fun c61 => ?_)
        · exact absurd c61 (by rw [zI_le (by omega) (by omega) (by omega) (by omega)]; omega)
        · refine sw_aload 66 dX8_passing_64 rfl rfl ?_
          refine sw_iload 68 dX8_passing_66 rfl rfl ?_
          refine sw_aload 70 dX8_passing_68 rfl rfl ?_
          refine sw_iload 72 dX8_passing_70 rfl rfl ?_
          refine sw_iald 73 dX8_passing_72 rfl (by first | assumption | exact ⟨by decide, rfl⟩) (by assumption) ?_
          rw [zI_clampN (by omega), A.1 (40 + i) (by omega), hvj.1]
          refine sw_aload_n 74 dX8_passing_73 rfl rfl rfl ?_
          refine sw_getR (b := 38) 77 dX8_passing_74 rfl gf_RX8_11 (fun _ _ _ _ => rfl) ⟨by decide, rfl⟩ rfl ?_
          refine sw_iload 79 dX8_passing_77 rfl rfl ?_
          refine sw_aald (b := (45 + 3 * j)) (t := 1) 80 dX8_passing_79 rfl ⟨by decide, rfl⟩ (by decide) (by assumption) (by first | assumption | rfl) ?_
          refine sw_iload_n 81 dX8_passing_80 rfl rfl rfl ?_
          refine sw_iload 83 dX8_passing_81 rfl rfl ?_
          refine sw_ineg 84 dX8_passing_83 rfl ?_
          rw [zI_neg]
          refine sw_invVI 87 dX8_passing_84 rfl lk_RX8_57 (c_M_powerOfPrime hM1 a1' a2 a3 hb3.2.1 hb3.2.2 (by omega) (by omega)) (by first | assumption | exact ⟨by decide, rfl⟩) rfl rfl (Nat.le_of_ble_eq_true rfl) (fun r84 h84 hq84 => ?_)
          obtain ⟨rfl, rfl⟩ := hq84
          refine sw_imul 88 dX8_passing_87 rfl ?_
          rw [zI_mul]
          refine sw_aload_n 89 dX8_passing_88 rfl rfl rfl ?_
          refine sw_getR (b := 38) 92 dX8_passing_89 rfl gf_RX8_11 (fun _ _ _ _ => rfl) ⟨by decide, rfl⟩ rfl ?_
          refine sw_iload 94 dX8_passing_92 rfl rfl ?_
          refine sw_aald (b := (45 + 3 * j)) (t := 1) 95 dX8_passing_94 rfl ⟨by decide, rfl⟩ (by decide) (by assumption) (by first | assumption | rfl) ?_
          refine sw_getI 98 dX8_passing_95 rfl gf_RX8_61 rfl (by first | assumption | exact ⟨by decide, rfl⟩) ?_
          rw [a1']
          refine sw_irem 99 dX8_passing_98 rfl (by first | assumption | decide) ?_
          rw [zI_rem (by omega) (by omega) (by omega) (by omega), Int.tmod_eq_emod_of_nonneg (by omega)]
          refine sw_iast 100 dX8_passing_99 rfl (by first | assumption | exact ⟨by decide, rfl⟩) (by assumption) ?_
          refine sw_iinc (v := zI 1) (lc' := [(0, _), (1, _), (2, _), (3, _), (4, _), (5, _), (6, _), (7, _)]) 103 dX8_passing_100 rfl (by decide) rfl rfl rfl ?_
          refine sw_goto 55 dX8_passing_103 (by decide) ?_
          rw [zI_clampN (by omega), zI_add]
          refine ih (j + 1) _ (by omega) (agI_tr A (agI_wI (by omega) (by omega))) (fun s hs => ?_)
          rw [sw_wI_at]
          by_cases e : s = j
          · subst e; simp only [va_up, if_true]
          · simp only [va_up, if_neg e]; exact hg s (by omega)
    refine sw_iload_n 1 dX8_passing_0 rfl rfl rfl ?_
    refine sw_aload_n 2 dX8_passing_1 rfl rfl rfl ?_
    refine sw_getI 5 dX8_passing_2 rfl gf_RX8_44 rfl ⟨by decide, rfl⟩ ?_
    rw [b1]
    refine sw_icmp_lt 19 8 dX8_passing_5 (by decide) rfl (fun c5 => ?_) (fun c5 => ?_)
    · refine sw_aload_n 20 dX8_passing_19 rfl rfl rfl ?_
      refine sw_getR (b := 3) 23 dX8_passing_20 rfl gf_RX8_51 (fun _ _ _ _ => rfl) ⟨by decide, rfl⟩ rfl ?_
      refine sw_iload_n 24 dX8_passing_23 rfl rfl rfl ?_
      refine sw_iald 25 dX8_passing_24 rfl ⟨by decide, rfl⟩ (by assumption) ?_
      rw [zI_clampN (by omega), hb3.1]
      refine sw_istore_n (lc' := [(0, _), (1, _), (2, _), (3, _)]) 26 dX8_passing_25 rfl rfl (by decide) rfl ?_
      refine sw_aload_n 27 dX8_passing_26 rfl rfl rfl ?_
      refine sw_getR (b := 4) 30 dX8_passing_27 rfl gf_RX8_54 (fun _ _ _ _ => rfl) ⟨by decide, rfl⟩ rfl ?_
      refine sw_iload_n 31 dX8_passing_30 rfl rfl rfl ?_
      refine sw_iald 32 dX8_passing_31 rfl ⟨by decide, rfl⟩ (by assumption) ?_
      rw [zI_clampN (by omega), hb4.1]
      refine sw_istore (lc' := [(0, _), (1, _), (2, _), (3, _), (4, _)]) 34 dX8_passing_32 rfl (by decide) rfl ?_
      refine sw_aload_n 35 dX8_passing_34 rfl rfl rfl ?_
      refine sw_getR (b := 39) 38 dX8_passing_35 rfl gf_RX8_19 (fun _ _ _ _ => rfl) ⟨by decide, rfl⟩ rfl ?_
      refine sw_iload_n 39 dX8_passing_38 rfl rfl rfl ?_
      refine sw_aald (b := (40 + i)) (t := 2) 40 dX8_passing_39 rfl ⟨by decide, rfl⟩ (by decide) (by assumption) (by first | assumption | rfl) ?_
      refine sw_astore (lc' := [(0, _), (1, _), (2, _), (3, _), (4, _), (5, _)]) 42 dX8_passing_40 rfl (by decide) rfl ?_
      refine sw_aload_n 43 dX8_passing_42 rfl rfl rfl ?_
      refine sw_getR (b := 39) 46 dX8_passing_43 rfl gf_RX8_19 (fun _ _ _ _ => rfl) ⟨by decide, rfl⟩ rfl ?_
      refine sw_iload_n 47 dX8_passing_46 rfl rfl rfl ?_
      refine sw_iconst (v := zI 1) 48 dX8_passing_47 rfl (by decide) ?_
      refine sw_iadd 49 dX8_passing_48 rfl ?_
      refine sw_aald (b := (40 + (i + 1))) (t := 2) 50 dX8_passing_49 rfl ⟨by decide, rfl⟩ (by decide) (by assumption) (by first | assumption | rfl) ?_
      refine sw_astore (lc' := [(0, _), (1, _), (2, _), (3, _), (4, _), (5, _), (6, _)]) 52 dX8_passing_50 rfl (by decide) rfl ?_
      refine sw_iconst (v := zI 0) 53 dX8_passing_52 rfl (by decide) ?_
      refine sw_istore (lc' := [(0, _), (1, _), (2, _), (3, _), (4, _), (5, _), (6, _), (7, _)]) 55 dX8_passing_53 rfl (by decide) rfl ?_
      exact start k 0 h (by omega) agI_rf (fun s hs => by omega)
    · exact absurd (by rw [zI_lt (by omega) (by omega) (by omega) (by omega)]; omega) c5
/-- sift: how many units of the box pass all sieves -/
theorem c_F_sift {h : sw_H} (V : atB h 2 3 4 n p bx) (VS : h.1 6 1 = zI k) (hk : k ≤ 4) (WS : ∀ s, s < k → h.1 7 s = zI (q s) ∧ 3 ≤ q s ∧ q s ≤ 97) (Z : ∀ s, s < 4 → ∃ k0 : Nat, h.1 (45 + 3 * s) 3 = zI k0) :
    sw_ct wA X l (d + n + 5) mX8_sift [.ref 37, .ref 2, .ref 6] h (sw_qI wA X fun r h2 => agI 37 57 h h2 ∧ (∀ s, s < 4 → ∃ k0 : Nat, h2.1 (45 + 3 * s) 3 = zI k0) ∧ ∃ m : Nat → Nat → Bool, (∀ s, s < k → ∀ r, r < q s → (m s r = true ↔ ReachZ (q s) n p r)) ∧ r = zI (passZ k q m p bx n 0 (fun _ => 1))) := by
  obtain ⟨v3, v4, v5, v6⟩ := V
  refine sw_ct_of (by decide +kernel) (Nat.le_of_ble_eq_true rfl) rfl ?_
  generalize hQ : (sw_qI wA X fun r h2 => agI 37 57 h h2 ∧ (∀ s, s < 4 → ∃ k0 : Nat, h2.1 (45 + 3 * s) 3 = zI k0) ∧ ∃ m : Nat → Nat → Bool, (∀ s, s < k → ∀ r, r < q s → (m s r = true ↔ ReachZ (q s) n p r)) ∧ r = zI (passZ k q m p bx n 0 (fun _ => 1))) = Qc
  have loop : ∀ (c j : Nat) (g : sw_H) (m : Nat → Nat → Bool), j + c = k → agI 37 57 h g → g.1 37 2 = zI k → (∀ s, s < 4 → ∃ k0 : Nat, g.1 (45 + 3 * s) 3 = zI k0) → (∀ s, s < j → g.1 (45 + 3 * s) 2 = zI (q s) ∧ (∀ r, r < q s → g.1 (46 + 3 * s) r = bI (m s r)) ∧ (∀ r, r < q s → (m s r = true ↔ ReachZ (q s) n p r)) ∧ g.1 40 s = zI 1) → sw_wp wA X l (d + n + 5) mX8_sift Qc 10 [(0, .ref 37), (1, .ref 2), (2, .ref 6), (3, .int (zI j))] [] g := by
    intro c
    induction c with
    | zero =>
      intro j g m hj A g37 Zg G
      have : j = k := by omega
      subst this
      have hB : atB g 2 3 4 n p bx := ⟨by rw [A.1 2 (by omega)]; exact v3, v4, fun i hi => by rw [A.1 3 (by omega)]; exact v5 i hi, fun i hi => by rw [A.1 4 (by omega)]; exact v6 i hi⟩
      have Ig : invF g n p bx j q m := ⟨hB, g37, hk, fun s hs => ⟨(G s hs).1, (WS s hs).2.1, (WS s hs).2.2, (G s hs).2.1⟩⟩
      subst hQ
      refine sw_iload_n 11 dX8_sift_10 rfl rfl rfl ?_
      refine sw_aload_n 12 dX8_sift_11 rfl rfl rfl ?_
      refine sw_getI 15 dX8_sift_12 rfl gf_RX8_29 rfl ⟨by decide, rfl⟩ ?_
      rw [g37]
      refine sw_icmp_ge 49 18 dX8_sift_15 (by decide) rfl (fun c15 => ?_) (fun c15 => ?_)
      · refine sw_aload_n 50 dX8_sift_49 rfl rfl rfl ?_
        refine sw_aload_n 51 dX8_sift_50 rfl rfl rfl ?_
        refine sw_iconst (v := zI 0) 52 dX8_sift_51 rfl (by decide) ?_
        refine sw_invSI 55 dX8_sift_52 rfl lk_RX8_40 (c_F_passing n 0 g (fun _ => 1) (by omega) Ig (fun s hs => ⟨(G s hs).2.2.2, by omega, by have := (WS s hs).2.1; omega⟩)) rfl rfl (Nat.le_of_ble_eq_true rfl) (fun r52 h52 hq52 => ?_)
        obtain ⟨A2, rfl⟩ := hq52
        exact sw_iret dX8_sift_55 rfl (⟨agI_tr A (agI_wide A2 (by omega) (by omega)), fun s hs => by rw [A2.1 _ (by omega)]; exact Zg s hs, m, fun s hs => (G s hs).2.2.1, rfl⟩)
      · exact absurd (Int32.le_refl _) c15
    | succ c ih =>
      intro j g m hj A g37 Zg G
      have hinj : vp_in (zI j) 4 := zI_inN (by omega) (by omega)
      have hin0 : vp_in (zI 0) 5 := zI_in (by omega) (by omega) (by omega)
      have hrfj := rf_mod (j := j) (by omega)
      have hM := isM_sif (j := j) (by omega)
      have hM1 := hM.1
      have hrf0 : wA.2.2 39 (zI 0).toNatClampNeg = 40 := rfl
      obtain ⟨k0, hk0⟩ := Zg j (by omega)
      have hw := WS j (by omega)
      have hB : atB g 2 3 4 n p bx := ⟨by rw [A.1 2 (by omega)]; exact v3, v4, fun i hi => by rw [A.1 3 (by omega)]; exact v5 i hi, fun i hi => by rw [A.1 4 (by omega)]; exact v6 i hi⟩
      refine sw_iload_n 11 dX8_sift_10 rfl rfl rfl ?_
      refine sw_aload_n 12 dX8_sift_11 rfl rfl rfl ?_
      refine sw_getI 15 dX8_sift_12 rfl gf_RX8_29 rfl ⟨by decide, rfl⟩ ?_
      rw [g37]
      refine sw_icmp_ge 49 18 dX8_sift_15 (by decide) rfl (fun c15 => ?_) (fun c15 => ?_)
      · exact absurd c15 (by rw [zI_le (by omega) (by omega) (by omega) (by omega)]; omega)
      · refine sw_aload_n 19 dX8_sift_18 rfl rfl rfl ?_
        refine sw_getR (b := 38) 22 dX8_sift_19 rfl gf_RX8_11 (fun _ _ _ _ => rfl) ⟨by decide, rfl⟩ rfl ?_
        refine sw_iload_n 23 dX8_sift_22 rfl rfl rfl ?_
        refine sw_aald (b := (45 + 3 * j)) (t := 1) 24 dX8_sift_23 rfl ⟨by decide, rfl⟩ (by decide) (by assumption) (by first | assumption | rfl) ?_
        refine sw_aload_n 25 dX8_sift_24 rfl rfl rfl ?_
        refine sw_aload_n 26 dX8_sift_25 rfl rfl rfl ?_
        refine sw_getR (b := 7) 29 dX8_sift_26 rfl gf_RX8_32 (fun _ _ _ _ => rfl) ⟨by decide, rfl⟩ rfl ?_
        refine sw_iload_n 30 dX8_sift_29 rfl rfl rfl ?_
        refine sw_iald 31 dX8_sift_30 rfl ⟨by decide, rfl⟩ (by assumption) ?_
        rw [zI_clampN (by omega), A.1 7 (by omega), hw.1]
        refine sw_invVV 34 dX8_sift_31 rfl lk_RX8_36 (c_M_fill hM isB_now hB hw.2.1 hw.2.2 hk0 (by omega) (by omega) (by omega) (by omega) (by omega) (by omega)) (by first | assumption | exact ⟨by decide, rfl⟩) rfl rfl (Nat.le_of_ble_eq_true rfl) (fun h31 hq31 => ?_)
        obtain ⟨f', c', m', rfl, F1, F2⟩ := hq31
        refine sw_aload_n 35 dX8_sift_34 rfl rfl rfl ?_
        refine sw_getR (b := 39) 38 dX8_sift_35 rfl gf_RX8_19 (fun _ _ _ _ => rfl) ⟨by decide, rfl⟩ rfl ?_
        refine sw_iconst (v := zI 0) 39 dX8_sift_38 rfl (by decide) ?_
        refine sw_aald (b := 40) (t := 2) 40 dX8_sift_39 rfl ⟨by decide, rfl⟩ (by decide) (by assumption) (by first | assumption | rfl) ?_
        refine sw_iload_n 41 dX8_sift_40 rfl rfl rfl ?_
        refine sw_iconst (v := zI 1) 42 dX8_sift_41 rfl (by decide) ?_
        refine sw_iast 43 dX8_sift_42 rfl ⟨by decide, rfl⟩ (by assumption) ?_
        refine sw_iinc (v := zI 1) (lc' := [(0, _), (1, _), (2, _), (3, _)]) 46 dX8_sift_43 rfl (by decide) rfl rfl rfl ?_
        refine sw_goto 10 dX8_sift_46 (by decide) ?_
        rw [zI_clampN (by omega), zI_add]
        refine ih (j + 1) _ (va_up m j m') (by omega) (agI_tr A ⟨fun a ha => ?_, rfl⟩) ?_ (fun s hs => ?_) (fun s hs => ?_)
        · rw [sw_wI_ne (by omega), mH_other (by omega) (by omega) (by omega)]
        · rw [sw_wI_ne (by omega), mH_other (by omega) (by omega) (by omega)]; exact g37
        · by_cases e : s = j
          · subst e; exact ⟨_, by rw [sw_wI_ne (by omega), mH_k hM]⟩
          · rw [sw_wI_ne (by omega), mH_other (by omega) (by omega) (by omega)]; exact Zg s hs
        · by_cases e : s = j
          · subst e
            simp only [va_up, if_true]
            refine ⟨by rw [sw_wI_ne (by omega), mH_q hM], fun r hr => by rw [sw_wI_ne (by omega), mH_f hM]; exact F1 r hr, F2, ?_⟩
            rw [sw_wI_at]; simp [va_up]
          · obtain ⟨b1, b2, b3, b4⟩ := G s (by omega)
            simp only [va_up, if_neg e]
            refine ⟨by rw [sw_wI_ne (by omega), mH_other (by omega) (by omega) (by omega)]; exact b1, fun r hr => by rw [sw_wI_ne (by omega), mH_other (by omega) (by omega) (by omega)]; exact b2 r hr, b3, ?_⟩
            rw [sw_wI_at]; simp only [va_up, if_neg e]; rw [mH_other (by omega) (by omega) (by omega)]; exact b4
  refine sw_aload_n 1 dX8_sift_0 rfl rfl rfl ?_
  refine sw_aload_n 2 dX8_sift_1 rfl rfl rfl ?_
  refine sw_getI 5 dX8_sift_2 rfl gf_RX8_23 rfl ⟨by decide, rfl⟩ ?_
  rw [VS]
  refine sw_putI 8 dX8_sift_5 rfl pf_RX8_29 rfl ⟨by decide, rfl⟩ ?_
  refine sw_iconst (v := zI 0) 9 dX8_sift_8 rfl (by decide) ?_
  refine sw_istore_n (lc' := [(0, _), (1, _), (2, _), (3, _)]) 10 dX8_sift_9 rfl rfl (by decide) rfl ?_
  exact loop k 0 _ (fun _ _ => false) (by omega) (agI_wI (by omega) (by omega)) (by rw [sw_wI_at]; simp [va_up]) (fun s hs => by rw [sw_wI_ne (by omega)]; exact Z s hs) (fun s hs => by omega)
end sw_sift
