/-! READER (in the class's world): 67, its unit 68, 69; the tape 63, 64 -/
theorem isY_tape : isY wA 63 64 60 := ⟨⟨by decide, rfl⟩, rfl, ⟨by decide, rfl⟩, by decide, by decide⟩
theorem isY_spell : isY wA 65 66 32 := ⟨⟨by decide, rfl⟩, rfl, ⟨by decide, rfl⟩, by decide, by decide⟩
/-- the byte at a place: 0 behind the end -/
def tbZ (T : Nat) (bs : Nat → Int) (i : Nat) : Int := if i < T then bs i else 0
def figZ (b : Int) : Bool := decide (48 ≤ b ∧ b ≤ 57)
def numZ (t : Nat → Int) : Nat → Nat → Int → Int × Nat
  | 0, P, a => (a, P)
  | c + 1, P, a => if figZ (t P) then numZ t c (P + 1) (10 * a + t P - 48) else (a, P)
/-- a power: whether it is one, where it stands then, the power -/
def powR (t : Nat → Int) (P : Nat) : Bool × Nat × Int :=
  let s : Int := if t P = 45 then -1 else 1
  let P1 := if t P = 45 then P + 1 else P
  if 48 ≤ t P1 ∧ t P1 ≤ 54 then (true, P1 + 1, s * (t P1 - 48)) else (false, P1, 0)
/-- a factor: whether it is one, where it stands then, whose power, by how much -/
def facR (t : Nat → Int) (p : Nat → Int) (n P : Nat) : Bool × Nat × Nat × Int :=
  if figZ (t P) = false ∨ t P = 48 then (false, P, 0, 0) else
    let z := numZ t 2 P 0
    let i := fndZ p z.1 n 0
    if i < 0 then (false, z.2, 0, 0) else
      if t z.2 = 94 then ((powR t (z.2 + 1)).1, (powR t (z.2 + 1)).2.1, i.toNat, (powR t (z.2 + 1)).2.2) else (true, z.2, i.toNat, 1)
def addE (e : Nat → Int) (i : Nat) (x : Int) : Nat → Int := va_up e i (e i + x)
/-- the factors behind the first one -/
def starR (t : Nat → Int) (p : Nat → Int) (n : Nat) : Nat → Nat → (Nat → Int) → Bool × Nat × (Nat → Int)
  | 0, P, e => (true, P, e)
  | c + 1, P, e => if t P = 42 then (if (facR t p n (P + 1)).1 then starR t p n c (facR t p n (P + 1)).2.1 (addE e (facR t p n (P + 1)).2.2.1 (facR t p n (P + 1)).2.2.2) else (false, (facR t p n (P + 1)).2.1, e)) else (true, P, e)
/-- behind the sign -/
def bodyR (t : Nat → Int) (p : Nat → Int) (n T c P : Nat) : Bool × Nat × (Nat → Int) :=
  if t P = 49 ∧ figZ (t (P + 1)) = false then (decide (P + 1 = T), P + 1, fun _ => 0) else
    if (facR t p n P).1 then
      let z := starR t p n c (facR t p n P).2.1 (addE (fun _ => 0) (facR t p n P).2.2.1 (facR t p n P).2.2.2)
      (z.1 && decide (z.2.1 = T), z.2.1, z.2.2)
    else (false, (facR t p n P).2.1, fun _ => 0)
def rdP (t : Nat → Int) : Nat := if t 0 = 45 then 1 else 0
def rdS (t : Nat → Int) : Int := if t 0 = 45 then -1 else 1
def rowE (e : Nat → Int) (f : Nat → Int32) : Nat → Int32 := fun i => if i < 4 then zI (e i) else f i
theorem rowE_up {e : Nat → Int} {f : Nat → Int32} {i : Nat} {x : Int} (hi : i < 4) : va_up (rowE e f) i (zI (e i) + zI x) = rowE (addE e i x) f := by
  funext k
  unfold va_up rowE addE va_up
  by_cases h1 : k = i
  · subst h1; rw [if_pos rfl, if_pos hi, if_pos rfl, zI_add]
  · rw [if_neg h1, if_neg h1]
/-- the reader: its unit's powers e and sign sx, its place P -/
def rH (h : sw_H) (e : Nat → Int) (sx : Int) (P : Nat) : sw_H := sw_wI (uH h 68 69 (rowE e (h.1 69)) (zI sx)) 67 1 (zI P)
theorem rH_other {h : sw_H} {e : Nat → Int} {sx : Int} {P a : Nat} (ha : a < 67 ∨ 69 < a) : (rH h e sx P).1 a = h.1 a := by
  rw [rH, sw_wI_ne (by omega), uH_other (by omega) (by omega)]
theorem rH_place {h : sw_H} {e : Nat → Int} {sx : Int} {P : Nat} : (rH h e sx P).1 67 1 = zI P := by rw [rH, sw_wI_at]; simp [va_up]
theorem rH_row {h : sw_H} {e : Nat → Int} {sx : Int} {P : Nat} : (rH h e sx P).1 69 = rowE e (h.1 69) := by rw [rH, sw_wI_ne (by decide), uH_row isU_read]
theorem rH_sign {h : sw_H} {e : Nat → Int} {sx : Int} {P : Nat} : (rH h e sx P).1 68 1 = zI sx := by rw [rH, sw_wI_ne (by decide), uH_sign isU_read]
theorem rH_P {h : sw_H} {e : Nat → Int} {sx : Int} {P Q : Nat} : sw_wI (rH h e sx P) 67 1 (zI Q) = rH h e sx Q := by
  unfold rH
  rw [sw_wI_p, sw_wI_p, sw_wI_p, sw_pI_at, sw_pI_pI]
  congr 1; funext i; by_cases e : i = 1 <;> simp [va_up, e]
theorem rH_e {h : sw_H} {e : Nat → Int} {sx : Int} {P i : Nat} {x : Int} (hi : i < 4) : sw_wI (rH h e sx P) 69 i (zI (e i) + zI x) = rH h (addE e i x) sx P := by
  unfold rH
  rw [sw_wI_p, sw_wI_ne (show 69 ≠ 67 by decide), uH_row isU_read, rowE_up hi]
  unfold uH
  rw [sw_wI_p (a := 67), sw_wI_p (a := 67), sw_wI_p (a := 68), sw_wI_p (a := 68), sw_pI_ne (show 68 ≠ 69 by decide), sw_pI_ne (show 68 ≠ 69 by decide), sw_pI_ne (show 67 ≠ 68 by decide), sw_pI_ne (show 67 ≠ 68 by decide), sw_pI_ne (show 67 ≠ 69 by decide), sw_pI_ne (show 67 ≠ 69 by decide), sw_pI_comm (show 67 ≠ 69 by decide), sw_pI_comm (show 68 ≠ 69 by decide), sw_pI_pI]
theorem rH_s {h : sw_H} {e : Nat → Int} {sx sy : Int} {P : Nat} : sw_wI (rH h e sx P) 68 1 (zI sy) = rH h e sy P := by
  unfold rH
  rw [sw_wI_p (a := 68), sw_wI_ne (show 68 ≠ 67 by decide)]
  unfold uH
  rw [sw_wI_p (a := 67), sw_wI_p (a := 67), sw_wI_p (a := 68), sw_wI_p (a := 68), sw_pI_at, sw_pI_ne (show 67 ≠ 68 by decide), sw_pI_ne (show 67 ≠ 68 by decide), sw_pI_comm (show 67 ≠ 68 by decide), sw_pI_pI]
  congr 2; funext i; by_cases e : i = 1 <;> simp [va_up, e]
section sw_reader
variable {X : sw_X} {l : Launch} {d : Nat} {h : sw_H} {n T : Nat} {p bx bs : Nat → Int}
theorem c_Y_at2 {w : sw_W} {h : sw_H} {t row m k : Nat} (S : isY w t row m) (hk : h.1 t 1 = zI k) (hkm : k ≤ m) {i : Int} (i1 : -2147483648 ≤ i) (i2 : i < 2147483648) : sw_ct w X l d mX2_at [.ref t, .int (zI i)] h (sw_qI w X fun r h2 => h2 = h ∧ r = if 0 ≤ i ∧ i < k then h.1 row i.toNat else zI 0) := by
  have e := c_Y_at (X := X) (l := l) (d := d) (h := h) (f := h.1 row) S hkm i1 i2
  rw [← yH_self S hk] at e
  exact e
/-- at(P) of the tape -/
theorem c_tape {g : sw_H} (h1 : g.1 63 1 = zI T) (hT : T ≤ 60) (h2 : ∀ i, i < T → g.1 64 i = zI (bs i) ∧ 32 ≤ bs i ∧ bs i ≤ 126) {P : Nat} (hP : P < 1000) : sw_ct wA X l d mX2_at [.ref 63, .int (zI P)] g (sw_qI wA X fun r h2 => h2 = g ∧ r = zI (tbZ T bs P)) := by
  refine sw_ct_monoI (fun r h9 q => ⟨q.1, ?_⟩) (c_Y_at2 isY_tape h1 hT (by omega) (by omega))
  rw [q.2]
  unfold tbZ
  by_cases e : P < T
  · rw [if_pos (by omega), if_pos e]; exact (h2 P e).1
  · rw [if_neg (by omega), if_neg e]
theorem tbZ_b (h2 : ∀ i, i < T → 32 ≤ bs i ∧ bs i ≤ 126) (P : Nat) : 0 ≤ tbZ T bs P ∧ tbZ T bs P ≤ 126 := by
  unfold tbZ; split
  · have := h2 P (by assumption); omega
  · omega
theorem c_R_isFigure {w : sw_W} {b : Int} (b1 : -1000 ≤ b) (b2 : b ≤ 1000) : sw_ct w X l d mX6_isFigure [.int (zI b)] h (sw_qI w X fun r h2 => h2 = h ∧ r = bI (figZ b)) := by
  refine sw_ct_of (by decide +kernel) (Nat.le_of_ble_eq_true rfl) rfl ?_
  refine sw_iload_n 1 dX6_isFigure_0 rfl rfl rfl ?_
  refine sw_bipush (v := zI 48) 3 dX6_isFigure_1 rfl (by decide) ?_
  refine sw_icmp_lt 16 6 dX6_isFigure_3 (by decide) rfl (fun c3 => ?_) (fun c3 => ?_)
  · refine sw_iconst (v := zI 0) 17 dX6_isFigure_16 rfl (by decide) ?_
    exact sw_zret (by first | exact Or.inl rfl | exact Or.inr rfl | assumption) dX6_isFigure_17 rfl (⟨rfl, by
  rw [zI_lt (by omega) (by omega) (by omega) (by omega)] at c3
  try rw [zI_lt (by omega) (by omega) (by omega) (by omega)] at c9
  unfold bI figZ
  first
  | (rw [if_pos (by simp; omega)]; done)
  | (rw [if_neg (by simp; omega)]; done)⟩)
  · refine sw_iload_n 7 dX6_isFigure_6 rfl rfl rfl ?_
    refine sw_bipush (v := zI 57) 9 dX6_isFigure_7 rfl (by decide) ?_
    refine sw_icmp_gt 16 12 dX6_isFigure_9 (by decide) rfl (fun c9 => ?_) (fun c9 => ?_)
    · refine sw_iconst (v := zI 0) 17 dX6_isFigure_16 rfl (by decide) ?_
      exact sw_zret (by first | exact Or.inl rfl | exact Or.inr rfl | assumption) dX6_isFigure_17 rfl (⟨rfl, by
  rw [zI_lt (by omega) (by omega) (by omega) (by omega)] at c3
  try rw [zI_lt (by omega) (by omega) (by omega) (by omega)] at c9
  unfold bI figZ
  first
  | (rw [if_pos (by simp; omega)]; done)
  | (rw [if_neg (by simp; omega)]; done)⟩)
    · refine sw_iconst (v := zI 1) 13 dX6_isFigure_12 rfl (by decide) ?_
      refine sw_goto 17 dX6_isFigure_13 (by decide) ?_
      exact sw_zret (by first | exact Or.inl rfl | exact Or.inr rfl | assumption) dX6_isFigure_17 rfl (⟨rfl, by
  rw [zI_lt (by omega) (by omega) (by omega) (by omega)] at c3
  try rw [zI_lt (by omega) (by omega) (by omega) (by omega)] at c9
  unfold bI figZ
  first
  | (rw [if_pos (by simp; omega)]; done)
  | (rw [if_neg (by simp; omega)]; done)⟩)
theorem c_R_scanNumber (h1 : h.1 63 1 = zI T) (hT : T ≤ 60) (h2 : ∀ i, i < T → h.1 64 i = zI (bs i) ∧ 32 ≤ bs i ∧ bs i ≤ 126) {e : Nat → Int} {sx : Int} {P : Nat} (hP : P ≤ 200) : sw_ct wA X l (d + 1) mX6_scanNumber [.ref 67, .ref 63] (rH h e sx P) (sw_qI wA X fun r g => g = rH h e sx (numZ (tbZ T bs) 2 P 0).2 ∧ r = zI (numZ (tbZ T bs) 2 P 0).1) := by
  have hb := tbZ_b (T := T) (bs := bs) (fun i hi => (h2 i hi).2)
  refine sw_ct_of (by decide +kernel) (Nat.le_of_ble_eq_true rfl) rfl ?_
  have loop : ∀ (c j P : Nat) (a : Int), j + c = 2 → P + c ≤ 300 → sw_wp wA X l (d + 1) mX6_scanNumber (sw_qI wA X fun r g => g = rH h e sx (numZ (tbZ T bs) c P a).2 ∧ r = zI (numZ (tbZ T bs) c P a).1) 4 [(0, .ref 67), (1, .ref 63), (2, .int (zI a)), (3, .int (zI j))] [] (rH h e sx P) := by
    intro c
    induction c with
    | zero =>
      intro j P a hj hP
      have : j = 2 := by omega
      subst this
      refine sw_iload_n 5 dX6_scanNumber_4 rfl rfl rfl ?_
      refine sw_iconst (v := zI 2) 6 dX6_scanNumber_5 rfl (by decide) ?_
      refine sw_icmp_ge 56 9 dX6_scanNumber_6 (by decide) rfl (fun c6 => ?_) (fun c6 => ?_)
      · refine sw_iload_n 57 dX6_scanNumber_56 rfl rfl rfl ?_
        exact sw_iret dX6_scanNumber_57 rfl (⟨rfl, rfl⟩)
      · exact absurd (Int32.le_refl _) c6
    | succ c ih =>
      intro j P a hj hP
      have hbP := hb P
      have le : numZ (tbZ T bs) (c + 1) P a = if figZ (tbZ T bs P) then numZ (tbZ T bs) c (P + 1) (10 * a + tbZ T bs P - 48) else (a, P) := rfl
      have g1 : (rH h e sx P).1 63 1 = zI T := by rw [rH_other (by omega)]; exact h1
      have g2 : ∀ i, i < T → (rH h e sx P).1 64 i = zI (bs i) ∧ 32 ≤ bs i ∧ bs i ≤ 126 := fun i hi => by rw [rH_other (by omega)]; exact h2 i hi
      refine sw_iload_n 5 dX6_scanNumber_4 rfl rfl rfl ?_
      refine sw_iconst (v := zI 2) 6 dX6_scanNumber_5 rfl (by decide) ?_
      refine sw_icmp_ge 56 9 dX6_scanNumber_6 (by decide) rfl (fun c6 => ?_) (fun c6 => ?_)
      · exact absurd c6 (by rw [zI_le (by omega) (by omega) (by omega) (by omega)]; omega)
      · refine sw_aload_n 10 dX6_scanNumber_9 rfl rfl rfl ?_
        refine sw_aload_n 11 dX6_scanNumber_10 rfl rfl rfl ?_
        refine sw_getI 14 dX6_scanNumber_11 rfl gf_RX6_21 rfl ⟨by decide, rfl⟩ ?_
        rw [rH_place]
        refine sw_invVI 17 dX6_scanNumber_14 rfl lk_RX6_25 (c_tape g1 hT g2 (by omega)) ⟨by decide, rfl⟩ rfl rfl (Nat.le_of_ble_eq_true rfl) (fun r14 h14 hq14 => ?_)
        obtain ⟨rfl, rfl⟩ := hq14
        refine sw_invSI 20 dX6_scanNumber_17 rfl lk_RX6_34 (c_R_isFigure (by omega) (by omega)) rfl rfl (Nat.le_of_ble_eq_true rfl) (fun r17 h17 hq17 => ?_)
        obtain ⟨rfl, rfl⟩ := hq17
        refine sw_if_eq 56 23 dX6_scanNumber_20 (by decide) rfl (fun c20 => ?_) (fun c20 => ?_)
        · have hf : figZ (tbZ T bs P) = false := by
            cases hf : figZ (tbZ T bs P) with
            | false => rfl
            | true => rw [hf] at c20; exact absurd c20 (by decide)
          rw [hf, if_neg (by decide)] at le
          refine sw_iload_n 57 dX6_scanNumber_56 rfl rfl rfl ?_
          exact sw_iret dX6_scanNumber_57 rfl (⟨by rw [le], by rw [le]⟩)
        · have hf : figZ (tbZ T bs P) = true := by
            cases hf : figZ (tbZ T bs P) with
            | true => rfl
            | false => rw [hf] at c20; exact absurd rfl c20
          rw [le, hf, if_pos rfl]
          refine sw_bipush (v := zI 10) 25 dX6_scanNumber_23 rfl (by decide) ?_
          refine sw_iload_n 26 dX6_scanNumber_25 rfl rfl rfl ?_
          refine sw_imul 27 dX6_scanNumber_26 rfl ?_
          rw [zI_mul]
          refine sw_aload_n 28 dX6_scanNumber_27 rfl rfl rfl ?_
          refine sw_aload_n 29 dX6_scanNumber_28 rfl rfl rfl ?_
          refine sw_getI 32 dX6_scanNumber_29 rfl gf_RX6_21 rfl ⟨by decide, rfl⟩ ?_
          rw [rH_place]
          refine sw_invVI 35 dX6_scanNumber_32 rfl lk_RX6_25 (c_tape g1 hT g2 (by omega)) ⟨by decide, rfl⟩ rfl rfl (Nat.le_of_ble_eq_true rfl) (fun r32 h32 hq32 => ?_)
          obtain ⟨rfl, rfl⟩ := hq32
          refine sw_iadd 36 dX6_scanNumber_35 rfl ?_
          rw [zI_add]
          refine sw_bipush (v := zI 48) 38 dX6_scanNumber_36 rfl (by decide) ?_
          refine sw_isub 39 dX6_scanNumber_38 rfl ?_
          rw [zI_sub]
          refine sw_istore_n (lc' := [(0, _), (1, _), (2, _), (3, _)]) 40 dX6_scanNumber_39 rfl rfl (by decide) rfl ?_
          refine sw_aload_n 41 dX6_scanNumber_40 rfl rfl rfl ?_
          refine sw_dup 42 dX6_scanNumber_41 rfl rfl ?_
          refine sw_getI 45 dX6_scanNumber_42 rfl gf_RX6_21 rfl ⟨by decide, rfl⟩ ?_
          rw [rH_place]
          refine sw_iconst (v := zI 1) 46 dX6_scanNumber_45 rfl (by decide) ?_
          refine sw_iadd 47 dX6_scanNumber_46 rfl ?_
          rw [zI_add]
          refine sw_putI 50 dX6_scanNumber_47 rfl pf_RX6_21 rfl ⟨by decide, rfl⟩ ?_
          rw [show ((P : Int) + 1) = ((P + 1 : Nat) : Int) from rfl, rH_P]
          refine sw_iinc (v := zI 1) (lc' := [(0, _), (1, _), (2, _), (3, _)]) 53 dX6_scanNumber_50 rfl (by decide) rfl rfl rfl ?_
          refine sw_goto 4 dX6_scanNumber_53 (by decide) ?_
          rw [zI_add]
          exact ih (j + 1) (P + 1) _ (by omega) (by omega)
  refine sw_iconst (v := zI 0) 1 dX6_scanNumber_0 rfl (by decide) ?_
  refine sw_istore_n (lc' := [(0, _), (1, _), (2, _)]) 2 dX6_scanNumber_1 rfl rfl (by decide) rfl ?_
  refine sw_iconst (v := zI 0) 3 dX6_scanNumber_2 rfl (by decide) ?_
  refine sw_istore_n (lc' := [(0, _), (1, _), (2, _), (3, _)]) 4 dX6_scanNumber_3 rfl rfl (by decide) rfl ?_
  exact loop 2 0 P 0 (by omega) (by omega)
theorem c_R_scanPower (h1 : h.1 63 1 = zI T) (hT : T ≤ 60) (h2 : ∀ i, i < T → h.1 64 i = zI (bs i) ∧ 32 ≤ bs i ∧ bs i ≤ 126) {e : Nat → Int} {sx : Int} {P i : Nat} (hP : P ≤ 300) (hi : i < 4) : sw_ct wA X l (d + 1) mX6_scanPower [.ref 67, .ref 63, .int (zI i)] (rH h e sx P) (sw_qI wA X fun r g => g = rH h (if (powR (tbZ T bs) P).1 then addE e i (powR (tbZ T bs) P).2.2 else e) sx (powR (tbZ T bs) P).2.1 ∧ r = bI (powR (tbZ T bs) P).1) := by
  have hb := tbZ_b (T := T) (bs := bs) (fun i hi => (h2 i hi).2)
  have hbP := hb P
  have hbP1 := hb (P + 1)
  have g1 : ∀ P, (rH h e sx P).1 63 1 = zI T := fun P => by rw [rH_other (by omega)]; exact h1
  have g2 : ∀ P, ∀ i, i < T → (rH h e sx P).1 64 i = zI (bs i) ∧ 32 ≤ bs i ∧ bs i ≤ 126 := fun P i hi => by rw [rH_other (by omega)]; exact h2 i hi
  have hin : vp_in (zI i) 4 := zI_inN hi (by omega)
  refine sw_ct_of (by decide +kernel) (Nat.le_of_ble_eq_true rfl) rfl ?_
  have tail : ∀ (s : Int) (P1 : Nat), P1 ≤ 301 → sw_wp wA X l (d + 1) mX6_scanPower (sw_qI wA X fun r g => g = rH h (if 48 ≤ tbZ T bs P1 ∧ tbZ T bs P1 ≤ 54 then addE e i (s * (tbZ T bs P1 - 48)) else e) sx (if 48 ≤ tbZ T bs P1 ∧ tbZ T bs P1 ≤ 54 then P1 + 1 else P1) ∧ r = bI (decide (48 ≤ tbZ T bs P1 ∧ tbZ T bs P1 ≤ 54))) 27 [(0, .ref 67), (1, .ref 63), (2, .int (zI i)), (3, .int (zI s))] [] (rH h e sx P1) := by
    intro s P1 hP1
    have hb1 := hb P1
    refine sw_aload_n 28 dX6_scanPower_27 rfl rfl rfl ?_
    refine sw_aload_n 29 dX6_scanPower_28 rfl rfl rfl ?_
    refine sw_getI 32 dX6_scanPower_29 rfl gf_RX6_21 rfl ⟨by decide, rfl⟩ ?_
    rw [rH_place]
    refine sw_invVI 35 dX6_scanPower_32 rfl lk_RX6_25 (c_tape (g1 P1) hT (g2 P1) (by omega)) ⟨by decide, rfl⟩ rfl rfl (Nat.le_of_ble_eq_true rfl) (fun r32 h32 hq32 => ?_)
    obtain ⟨rfl, rfl⟩ := hq32
    refine sw_bipush (v := zI 48) 37 dX6_scanPower_35 rfl (by decide) ?_
    refine sw_isub 38 dX6_scanPower_37 rfl ?_
    rw [zI_sub]
    refine sw_istore (lc' := [(0, _), (1, _), (2, _), (3, _), (4, _)]) 40 dX6_scanPower_38 rfl (by decide) rfl ?_
    refine sw_iload 42 dX6_scanPower_40 rfl rfl ?_
    refine sw_if_lt 52 45 dX6_scanPower_42 (by decide) rfl (fun c42 => ?_) (fun c42 => ?_)
    · refine sw_iconst (v := zI 0) 53 dX6_scanPower_52 rfl (by decide) ?_
      exact sw_zret (by first | exact Or.inl rfl | exact Or.inr rfl | assumption) dX6_scanPower_53 rfl (by
  rw [z0, zI_lt (by omega) (by omega) (by omega) (by omega)] at c42
  have hc : ¬ (48 ≤ tbZ T bs P1 ∧ tbZ T bs P1 ≤ 54) := by omega
  rw [if_neg hc, if_neg hc]
  exact ⟨rfl, by rw [decide_eq_false hc]; rfl⟩)
    · rw [z0, zI_lt (by omega) (by omega) (by omega) (by omega)] at c42
      refine sw_iload 47 dX6_scanPower_45 rfl rfl ?_
      refine sw_bipush (v := zI 6) 49 dX6_scanPower_47 rfl (by decide) ?_
      refine sw_icmp_le 54 52 dX6_scanPower_49 (by decide) rfl (fun c49 => ?_) (fun c49 => ?_)
      · refine sw_aload_n 55 dX6_scanPower_54 rfl rfl rfl ?_
        refine sw_dup 56 dX6_scanPower_55 rfl rfl ?_
        refine sw_getI 59 dX6_scanPower_56 rfl gf_RX6_21 rfl ⟨by decide, rfl⟩ ?_
        rw [rH_place]
        refine sw_iconst (v := zI 1) 60 dX6_scanPower_59 rfl (by decide) ?_
        refine sw_iadd 61 dX6_scanPower_60 rfl ?_
        rw [zI_add]
        refine sw_putI 64 dX6_scanPower_61 rfl pf_RX6_21 rfl ⟨by decide, rfl⟩ ?_
        rw [show ((P1 : Int) + 1) = ((P1 + 1 : Nat) : Int) from rfl, rH_P]
        refine sw_aload_n 65 dX6_scanPower_64 rfl rfl rfl ?_
        refine sw_getR (b := 68) 68 dX6_scanPower_65 rfl gf_RX6_12 (fun _ _ _ _ => rfl) ⟨by decide, rfl⟩ rfl ?_
        refine sw_getR (b := 69) 71 dX6_scanPower_68 rfl gf_RX6_54 (fun _ _ _ _ => rfl) ⟨by decide, rfl⟩ rfl ?_
        refine sw_iload_n 72 dX6_scanPower_71 rfl rfl rfl ?_
        refine sw_dup2 73 dX6_scanPower_72 rfl rfl rfl ?_
        refine sw_iald 74 dX6_scanPower_73 rfl ⟨by decide, rfl⟩ (by assumption) ?_
        rw [zI_clampN (by omega), rH_row, show rowE e (h.1 69) i = zI (e i) by unfold rowE; rw [if_pos hi]]
        refine sw_iload_n 75 dX6_scanPower_74 rfl rfl rfl ?_
        refine sw_iload 77 dX6_scanPower_75 rfl rfl ?_
        refine sw_imul 78 dX6_scanPower_77 rfl ?_
        rw [zI_mul]
        refine sw_iadd 79 dX6_scanPower_78 rfl ?_
        refine sw_iast 80 dX6_scanPower_79 rfl ⟨by decide, rfl⟩ (by assumption) ?_
        refine sw_iconst (v := zI 1) 81 dX6_scanPower_80 rfl (by decide) ?_
        exact sw_zret (by first | exact Or.inl rfl | exact Or.inr rfl | assumption) dX6_scanPower_81 rfl (by
  rw [zI_le (by omega) (by omega) (by omega) (by omega)] at c49
  have hc : 48 ≤ tbZ T bs P1 ∧ tbZ T bs P1 ≤ 54 := by omega
  rw [if_pos hc, if_pos hc, zI_clampN (by omega), rH_e hi]
  exact ⟨rfl, by rw [decide_eq_true hc]; rfl⟩)
      · refine sw_iconst (v := zI 0) 53 dX6_scanPower_52 rfl (by decide) ?_
        exact sw_zret (by first | exact Or.inl rfl | exact Or.inr rfl | assumption) dX6_scanPower_53 rfl (by
  rw [zI_le (by omega) (by omega) (by omega) (by omega)] at c49
  have hc : ¬ (48 ≤ tbZ T bs P1 ∧ tbZ T bs P1 ≤ 54) := by omega
  rw [if_neg hc, if_neg hc]
  exact ⟨rfl, by rw [decide_eq_false hc]; rfl⟩)
  have conv : ∀ (s : Int) (P1 : Nat), (if tbZ T bs P = 45 then (-1 : Int) else 1) = s → (if tbZ T bs P = 45 then P + 1 else P) = P1 → powR (tbZ T bs) P = (decide (48 ≤ tbZ T bs P1 ∧ tbZ T bs P1 ≤ 54), if 48 ≤ tbZ T bs P1 ∧ tbZ T bs P1 ≤ 54 then P1 + 1 else P1, if 48 ≤ tbZ T bs P1 ∧ tbZ T bs P1 ≤ 54 then s * (tbZ T bs P1 - 48) else 0) := by
    intro s P1 e1 e2
    unfold powR
    simp only [e1, e2]
    by_cases hc : 48 ≤ tbZ T bs P1 ∧ tbZ T bs P1 ≤ 54
    · simp only [if_pos hc, decide_eq_true hc]
    · simp only [if_neg hc, decide_eq_false hc]
  refine sw_iconst (v := zI 1) 1 dX6_scanPower_0 rfl (by decide) ?_
  refine sw_istore_n (lc' := [(0, _), (1, _), (2, _), (3, _)]) 2 dX6_scanPower_1 rfl rfl (by decide) rfl ?_
  refine sw_aload_n 3 dX6_scanPower_2 rfl rfl rfl ?_
  refine sw_aload_n 4 dX6_scanPower_3 rfl rfl rfl ?_
  refine sw_getI 7 dX6_scanPower_4 rfl gf_RX6_21 rfl ⟨by decide, rfl⟩ ?_
  rw [rH_place]
  refine sw_invVI 10 dX6_scanPower_7 rfl lk_RX6_25 (c_tape (g1 P) hT (g2 P) (by omega)) ⟨by decide, rfl⟩ rfl rfl (Nat.le_of_ble_eq_true rfl) (fun r7 h7 hq7 => ?_)
  obtain ⟨rfl, rfl⟩ := hq7
  refine sw_bipush (v := zI 45) 12 dX6_scanPower_10 rfl (by decide) ?_
  refine sw_icmp_ne 27 15 dX6_scanPower_12 (by decide) rfl (fun c12 => ?_) (fun c12 => ?_)
  · rw [zI_eq (by omega) (by omega) (by omega) (by omega)] at c12
    rw [conv 1 P (by rw [if_neg c12]) (by rw [if_neg c12])]
    have e9 := tail 1 P (by omega)
    simp only [decide_eq_true_eq]
    refine cast (congrArg (fun Qc => sw_wp wA X l (d + 1) mX6_scanPower Qc 27 _ [] _) ?_) e9
    congr 1; funext r g; congr 1; congr 1
    by_cases hc : 48 ≤ tbZ T bs P ∧ tbZ T bs P ≤ 54
    · rw [if_pos hc, if_pos hc, if_pos hc, if_pos hc]
    · rw [if_neg hc, if_neg hc, if_neg hc]
  · refine sw_iconst (v := zI (-1)) 16 dX6_scanPower_15 rfl (by decide) ?_
    refine sw_istore_n (lc' := [(0, _), (1, _), (2, _), (3, _)]) 17 dX6_scanPower_16 rfl rfl (by decide) rfl ?_
    refine sw_aload_n 18 dX6_scanPower_17 rfl rfl rfl ?_
    refine sw_dup 19 dX6_scanPower_18 rfl rfl ?_
    refine sw_getI 22 dX6_scanPower_19 rfl gf_RX6_21 rfl ⟨by decide, rfl⟩ ?_
    rw [rH_place]
    refine sw_iconst (v := zI 1) 23 dX6_scanPower_22 rfl (by decide) ?_
    refine sw_iadd 24 dX6_scanPower_23 rfl ?_
    rw [zI_add]
    refine sw_putI 27 dX6_scanPower_24 rfl pf_RX6_21 rfl ⟨by decide, rfl⟩ ?_
    rw [zI_eq (by omega) (by omega) (by omega) (by omega)] at c12
    rw [show ((P : Int) + 1) = ((P + 1 : Nat) : Int) from rfl, rH_P, conv (-1) (P + 1) (by rw [if_pos c12]) (by rw [if_pos c12])]
    have e9 := tail (-1) (P + 1) (by omega)
    simp only [decide_eq_true_eq]
    refine cast (congrArg (fun Qc => sw_wp wA X l (d + 1) mX6_scanPower Qc 27 _ [] _) ?_) e9
    congr 1; funext r g; congr 1; congr 1
    by_cases hc : 48 ≤ tbZ T bs (P + 1) ∧ tbZ T bs (P + 1) ≤ 54
    · rw [if_pos hc, if_pos hc, if_pos hc, if_pos hc]
    · rw [if_neg hc, if_neg hc, if_neg hc]
theorem numZ_b (t : Nat → Int) : ∀ (c P : Nat) (a : Int), P ≤ (numZ t c P a).2 ∧ (numZ t c P a).2 ≤ P + c
  | 0, P, a => ⟨Nat.le_refl _, Nat.le_refl _⟩
  | c + 1, P, a => by
    unfold numZ
    split
    · have := numZ_b t c (P + 1) (10 * a + t P - 48); omega
    · simp
theorem numZ_v (t : Nat → Int) (ht : ∀ i, 0 ≤ t i ∧ t i ≤ 126) (P : Nat) : -1000 ≤ (numZ t 2 P 0).1 ∧ (numZ t 2 P 0).1 ≤ 2000 := by
  have a1 := ht P
  have a2 := ht (P + 1)
  unfold numZ
  split
  · unfold numZ
    split
    · unfold numZ; simp; omega
    · simp; omega
  · simp
theorem powR_b (t : Nat → Int) (P : Nat) : P ≤ (powR t P).2.1 ∧ (powR t P).2.1 ≤ P + 2 ∧ -6 ≤ (powR t P).2.2 ∧ (powR t P).2.2 ≤ 6 := by
  unfold powR
  simp only
  split <;> (split <;> simp <;> omega)
theorem facR_b (t : Nat → Int) (p : Nat → Int) (n P : Nat) : P ≤ (facR t p n P).2.1 ∧ (facR t p n P).2.1 ≤ P + 5 ∧ -6 ≤ (facR t p n P).2.2.2 ∧ (facR t p n P).2.2.2 ≤ 6 ∧ (0 < n → (facR t p n P).2.2.1 < n) := by
  have hz := numZ_b t 2 P 0
  have hf := fndZ_in p (numZ t 2 P 0).1 n 0
  have hp := powR_b t ((numZ t 2 P 0).2 + 1)
  unfold facR
  split
  · simp
  · simp only
    split
    · simp; omega
    · split
      · simp; omega
      · simp; omega
theorem facR_i (t : Nat → Int) (p : Nat → Int) (n P : Nat) (h : (facR t p n P).1 = true) : (facR t p n P).2.2.1 < n := by
  have hf := fndZ_in p (numZ t 2 P 0).1 n 0
  unfold facR at h ⊢
  split at h
  · simp at h
  · rename_i h1
    rw [if_neg h1]
    simp only at h ⊢
    split at h
    · simp at h
    · rename_i h2
      rw [if_neg h2]
      split <;> (simp; omega)
theorem c_R_scanFactor (h1 : h.1 63 1 = zI T) (hT : T ≤ 60) (h2 : ∀ i, i < T → h.1 64 i = zI (bs i) ∧ 32 ≤ bs i ∧ bs i ≤ 126) (V : atB h 2 3 4 n p bx) {e : Nat → Int} {sx : Int} {P : Nat} (hP : P ≤ 190) : sw_ct wA X l (d + 2) mX6_scanFactor [.ref 67, .ref 63, .ref 2] (rH h e sx P) (sw_qI wA X fun r g => g = rH h (if (facR (tbZ T bs) p n P).1 then addE e (facR (tbZ T bs) p n P).2.2.1 (facR (tbZ T bs) p n P).2.2.2 else e) sx (facR (tbZ T bs) p n P).2.1 ∧ r = bI (facR (tbZ T bs) p n P).1) := by
  have hb := tbZ_b (T := T) (bs := bs) (fun i hi => (h2 i hi).2)
  have hbP := hb P
  have g1 : ∀ P, (rH h e sx P).1 63 1 = zI T := fun P => by rw [rH_other (by omega)]; exact h1
  have g2 : ∀ P, ∀ i, i < T → (rH h e sx P).1 64 i = zI (bs i) ∧ 32 ≤ bs i ∧ bs i ≤ 126 := fun P i hi => by rw [rH_other (by omega)]; exact h2 i hi
  have gB : ∀ P, atB (rH h e sx P) 2 3 4 n p bx := fun P => by
    obtain ⟨b1, b2, b3, b4⟩ := V
    exact ⟨by rw [rH_other (by omega)]; exact b1, b2, fun i hi => by rw [rH_other (by omega)]; exact b3 i hi, fun i hi => by rw [rH_other (by omega)]; exact b4 i hi⟩
  have hn4 : n ≤ 4 := V.2.1
  have hz := numZ_b (tbZ T bs) 2 P 0
  have hzv := numZ_v (tbZ T bs) hb P
  have hbz := hb (numZ (tbZ T bs) 2 P 0).2
  have hf := fndZ_in p (numZ (tbZ T bs) 2 P 0).1 n 0
  have fa : facR (tbZ T bs) p n P = if figZ (tbZ T bs P) = false ∨ tbZ T bs P = 48 then (false, P, 0, 0) else (if fndZ p (numZ (tbZ T bs) 2 P 0).1 n 0 < 0 then (false, (numZ (tbZ T bs) 2 P 0).2, 0, 0) else if tbZ T bs (numZ (tbZ T bs) 2 P 0).2 = 94 then ((powR (tbZ T bs) ((numZ (tbZ T bs) 2 P 0).2 + 1)).1, (powR (tbZ T bs) ((numZ (tbZ T bs) 2 P 0).2 + 1)).2.1, (fndZ p (numZ (tbZ T bs) 2 P 0).1 n 0).toNat, (powR (tbZ T bs) ((numZ (tbZ T bs) 2 P 0).2 + 1)).2.2) else (true, (numZ (tbZ T bs) 2 P 0).2, (fndZ p (numZ (tbZ T bs) 2 P 0).1 n 0).toNat, 1)) := rfl
  refine sw_ct_of (by decide +kernel) (Nat.le_of_ble_eq_true rfl) rfl ?_
  generalize hzz : numZ (tbZ T bs) 2 P 0 = z at *
  generalize hff : fndZ p z.1 n 0 = ix at *
  refine sw_aload_n 1 dX6_scanFactor_0 rfl rfl rfl ?_
  refine sw_aload_n 2 dX6_scanFactor_1 rfl rfl rfl ?_
  refine sw_getI 5 dX6_scanFactor_2 rfl gf_RX6_21 rfl ⟨by decide, rfl⟩ ?_
  rw [rH_place]
  refine sw_invVI 8 dX6_scanFactor_5 rfl lk_RX6_25 (c_tape (g1 P) hT (g2 P) (by omega)) ⟨by decide, rfl⟩ rfl rfl (Nat.le_of_ble_eq_true rfl) (fun r5 h5 hq5 => ?_)
  obtain ⟨rfl, rfl⟩ := hq5
  refine sw_invSI 11 dX6_scanFactor_8 rfl lk_RX6_34 (c_R_isFigure (by omega) (by omega)) rfl rfl (Nat.le_of_ble_eq_true rfl) (fun r8 h8 hq8 => ?_)
  obtain ⟨rfl, rfl⟩ := hq8
  refine sw_if_eq 27 14 dX6_scanFactor_11 (by decide) rfl (fun c11 => ?_) (fun c11 => ?_)
  · refine sw_iconst (v := zI 0) 28 dX6_scanFactor_27 rfl (by decide) ?_
    exact sw_zret (by first | exact Or.inl rfl | exact Or.inr rfl | assumption) dX6_scanFactor_28 rfl (by
  have hfg : figZ (tbZ T bs P) = false := by
    cases hfg : figZ (tbZ T bs P) with
    | false => rfl
    | true => rw [hfg] at c11; exact absurd c11 (by decide)
  rw [if_pos (Or.inl hfg)] at fa
  rw [fa]; exact ⟨rfl, rfl⟩)
  · have hfg : figZ (tbZ T bs P) = true := by
      cases hfg : figZ (tbZ T bs P) with
      | true => rfl
      | false => rw [hfg] at c11; exact absurd rfl c11
    refine sw_aload_n 15 dX6_scanFactor_14 rfl rfl rfl ?_
    refine sw_aload_n 16 dX6_scanFactor_15 rfl rfl rfl ?_
    refine sw_getI 19 dX6_scanFactor_16 rfl gf_RX6_21 rfl ⟨by decide, rfl⟩ ?_
    rw [rH_place]
    refine sw_invVI 22 dX6_scanFactor_19 rfl lk_RX6_25 (c_tape (g1 P) hT (g2 P) (by omega)) ⟨by decide, rfl⟩ rfl rfl (Nat.le_of_ble_eq_true rfl) (fun r19 h19 hq19 => ?_)
    obtain ⟨rfl, rfl⟩ := hq19
    refine sw_bipush (v := zI 48) 24 dX6_scanFactor_22 rfl (by decide) ?_
    refine sw_icmp_ne 29 27 dX6_scanFactor_24 (by decide) rfl (fun c24 => ?_) (fun c24 => ?_)
    · rw [zI_eq (by omega) (by omega) (by omega) (by omega)] at c24
      rw [if_neg (fun q => by rcases q with q | q; rw [hfg] at q; cases q; exact c24 q)] at fa
      refine sw_aload_n 30 dX6_scanFactor_29 rfl rfl rfl ?_
      refine sw_aload_n 31 dX6_scanFactor_30 rfl rfl rfl ?_
      refine sw_aload_n 32 dX6_scanFactor_31 rfl rfl rfl ?_
      refine sw_invVI 35 dX6_scanFactor_32 rfl lk_RX6_45 (c_R_scanNumber h1 hT h2 (by omega)) ⟨by decide, rfl⟩ rfl rfl (Nat.le_of_ble_eq_true rfl) (fun r32 h32 hq32 => ?_)
      obtain ⟨rfl, rfl⟩ := hq32
      rw [hzz]
      refine sw_invVI 38 dX6_scanFactor_35 rfl lk_RX6_49 (c_B_placeOf isB_now (gB z.2) (by omega) (by omega)) ⟨by decide, rfl⟩ rfl rfl (Nat.le_of_ble_eq_true rfl) (fun r35 h35 hq35 => ?_)
      obtain ⟨rfl, rfl⟩ := hq35
      rw [hff]
      refine sw_istore_n (lc' := [(0, _), (1, _), (2, _), (3, _)]) 39 dX6_scanFactor_38 rfl rfl (by decide) rfl ?_
      refine sw_iload_n 40 dX6_scanFactor_39 rfl rfl rfl ?_
      refine sw_if_ge 45 43 dX6_scanFactor_40 (by decide) rfl (fun c40 => ?_) (fun c40 => ?_)
      · rw [z0, zI_le (by omega) (by omega) (by omega) (by omega)] at c40
        rw [if_neg (by omega)] at fa
        have hii : ((ix.toNat : Nat) : Int) = ix := by omega
        have hin : vp_in (zI ix) 4 := zI_in (by omega) (by omega) (by omega)
        refine sw_aload_n 46 dX6_scanFactor_45 rfl rfl rfl ?_
        refine sw_aload_n 47 dX6_scanFactor_46 rfl rfl rfl ?_
        refine sw_getI 50 dX6_scanFactor_47 rfl gf_RX6_21 rfl ⟨by decide, rfl⟩ ?_
        rw [rH_place]
        refine sw_invVI 53 dX6_scanFactor_50 rfl lk_RX6_25 (c_tape (g1 z.2) hT (g2 z.2) (by omega)) ⟨by decide, rfl⟩ rfl rfl (Nat.le_of_ble_eq_true rfl) (fun r50 h50 hq50 => ?_)
        obtain ⟨rfl, rfl⟩ := hq50
        refine sw_bipush (v := zI 94) 55 dX6_scanFactor_53 rfl (by decide) ?_
        refine sw_icmp_eq 73 58 dX6_scanFactor_55 (by decide) rfl (fun c55 => ?_) (fun c55 => ?_)
        · rw [zI_eq (by omega) (by omega) (by omega) (by omega)] at c55
          rw [if_pos c55] at fa
          refine sw_aload_n 74 dX6_scanFactor_73 rfl rfl rfl ?_
          refine sw_dup 75 dX6_scanFactor_74 rfl rfl ?_
          refine sw_getI 78 dX6_scanFactor_75 rfl gf_RX6_21 rfl ⟨by decide, rfl⟩ ?_
          rw [rH_place]
          refine sw_iconst (v := zI 1) 79 dX6_scanFactor_78 rfl (by decide) ?_
          refine sw_iadd 80 dX6_scanFactor_79 rfl ?_
          rw [zI_add]
          refine sw_putI 83 dX6_scanFactor_80 rfl pf_RX6_21 rfl ⟨by decide, rfl⟩ ?_
          rw [show ((z.2 : Int) + 1) = ((z.2 + 1 : Nat) : Int) from rfl, rH_P]
          refine sw_aload_n 84 dX6_scanFactor_83 rfl rfl rfl ?_
          refine sw_aload_n 85 dX6_scanFactor_84 rfl rfl rfl ?_
          refine sw_iload_n 86 dX6_scanFactor_85 rfl rfl rfl ?_
          rw [← hii]
          refine sw_invVI 89 dX6_scanFactor_86 rfl lk_RX6_58 (c_R_scanPower h1 hT h2 (by omega) (show ix.toNat < 4 by omega)) ⟨by decide, rfl⟩ rfl rfl (Nat.le_of_ble_eq_true rfl) (fun r86 h86 hq86 => ?_)
          obtain ⟨rfl, rfl⟩ := hq86
          exact sw_zret (bI_01 _) dX6_scanFactor_89 rfl (⟨by rw [fa], by rw [fa]⟩)
        · rw [zI_eq (by omega) (by omega) (by omega) (by omega)] at c55
          rw [if_neg c55] at fa
          refine sw_aload_n 59 dX6_scanFactor_58 rfl rfl rfl ?_
          refine sw_getR (b := 68) 62 dX6_scanFactor_59 rfl gf_RX6_12 (fun _ _ _ _ => rfl) ⟨by decide, rfl⟩ rfl ?_
          refine sw_getR (b := 69) 65 dX6_scanFactor_62 rfl gf_RX6_54 (fun _ _ _ _ => rfl) ⟨by decide, rfl⟩ rfl ?_
          refine sw_iload_n 66 dX6_scanFactor_65 rfl rfl rfl ?_
          refine sw_dup2 67 dX6_scanFactor_66 rfl rfl rfl ?_
          refine sw_iald 68 dX6_scanFactor_67 rfl ⟨by decide, rfl⟩ (by assumption) ?_
          rw [zI_clamp (by omega) (by omega), rH_row, show rowE e (h.1 69) ix.toNat = zI (e ix.toNat) by unfold rowE; rw [if_pos (by omega)]]
          refine sw_iconst (v := zI 1) 69 dX6_scanFactor_68 rfl (by decide) ?_
          refine sw_iadd 70 dX6_scanFactor_69 rfl ?_
          refine sw_iast 71 dX6_scanFactor_70 rfl ⟨by decide, rfl⟩ (by assumption) ?_
          refine sw_iconst (v := zI 1) 72 dX6_scanFactor_71 rfl (by decide) ?_
          exact sw_zret (by first | exact Or.inl rfl | exact Or.inr rfl | assumption) dX6_scanFactor_72 rfl (⟨by rw [fa, zI_clamp (by omega) (by omega), rH_e (by omega)]; rfl, by rw [fa]; rfl⟩)
      · refine sw_iconst (v := zI 0) 44 dX6_scanFactor_43 rfl (by decide) ?_
        exact sw_zret (by first | exact Or.inl rfl | exact Or.inr rfl | assumption) dX6_scanFactor_44 rfl (⟨by
  rw [z0, zI_le (by omega) (by omega) (by omega) (by omega)] at c40
  rw [if_pos (by omega)] at fa
  rw [fa]; rfl, by
  rw [z0, zI_le (by omega) (by omega) (by omega) (by omega)] at c40
  rw [if_pos (by omega)] at fa
  rw [fa]; rfl⟩)
    · refine sw_iconst (v := zI 0) 28 dX6_scanFactor_27 rfl (by decide) ?_
      exact sw_zret (by first | exact Or.inl rfl | exact Or.inr rfl | assumption) dX6_scanFactor_28 rfl (by
  rw [zI_eq (by omega) (by omega) (by omega) (by omega)] at c24
  rw [if_pos (Or.inr c24)] at fa
  rw [fa]; exact ⟨rfl, rfl⟩)
theorem starR_b (t : Nat → Int) (p : Nat → Int) (n : Nat) : ∀ (c P : Nat) (e : Nat → Int) (B : Nat), (∀ i, -(B : Int) ≤ e i ∧ e i ≤ B) → ∀ i, -((B + 6 * c : Nat) : Int) ≤ (starR t p n c P e).2.2 i ∧ (starR t p n c P e).2.2 i ≤ ((B + 6 * c : Nat) : Int)
  | 0, P, e, B, hB => fun i => by have := hB i; unfold starR; simp; omega
  | c + 1, P, e, B, hB => fun i => by
    have hf := facR_b t p n (P + 1)
    unfold starR
    split
    · split
      · have h9 := starR_b t p n c (facR t p n (P + 1)).2.1 (addE e (facR t p n (P + 1)).2.2.1 (facR t p n (P + 1)).2.2.2) (B + 6) (fun i => by
          have h0 := hB i
          have h1 := hB (facR t p n (P + 1)).2.2.1
          unfold addE va_up
          split <;> omega) i
        omega
      · have := hB i; simp; omega
    · have := hB i; simp; omega
theorem bodyR_b (t : Nat → Int) (p : Nat → Int) (n T P : Nat) (i : Nat) : -1000 ≤ (bodyR t p n T 60 P).2.2 i ∧ (bodyR t p n T 60 P).2.2 i ≤ 1000 := by
  have hf := facR_b t p n P
  unfold bodyR
  split
  · simp
  · split
    · have h9 := starR_b t p n 60 (facR t p n P).2.1 (addE (fun _ => 0) (facR t p n P).2.2.1 (facR t p n P).2.2.2) 6 (fun i => by
        unfold addE va_up
        split <;> simp <;> omega) i
      simp only
      omega
    · simp
theorem c_R_scan (h1 : h.1 63 1 = zI T) (hT : T ≤ 60) (h2 : ∀ i, i < T → h.1 64 i = zI (bs i) ∧ 32 ≤ bs i ∧ bs i ≤ 126) (V : atB h 2 3 4 n p bx) : sw_ct wA X l (d + 3) mX6_scan [.ref 67, .ref 63, .ref 2] h (sw_qI wA X fun r g => g = rH h (bodyR (tbZ T bs) p n T 60 (rdP (tbZ T bs))).2.2 (rdS (tbZ T bs)) (bodyR (tbZ T bs) p n T 60 (rdP (tbZ T bs))).2.1 ∧ r = bI (bodyR (tbZ T bs) p n T 60 (rdP (tbZ T bs))).1) := by
  have hb := tbZ_b (T := T) (bs := bs) (fun i hi => (h2 i hi).2)
  have g1 : ∀ e sx P, (rH h e sx P).1 63 1 = zI T := fun e sx P => by rw [rH_other (by omega)]; exact h1
  have g2 : ∀ e sx P, ∀ i, i < T → (rH h e sx P).1 64 i = zI (bs i) ∧ 32 ≤ bs i ∧ bs i ≤ 126 := fun e sx P i hi => by rw [rH_other (by omega)]; exact h2 i hi
  refine sw_ct_of (by decide +kernel) (Nat.le_of_ble_eq_true rfl) rfl ?_
  have loop : ∀ (c j P : Nat) (e : Nat → Int) (sx : Int), j + c = 60 → P ≤ 70 → sw_wp wA X l (d + 3) mX6_scan (sw_qI wA X fun r g => g = rH h (starR (tbZ T bs) p n c P e).2.2 sx (starR (tbZ T bs) p n c P e).2.1 ∧ r = bI ((starR (tbZ T bs) p n c P e).1 && decide ((starR (tbZ T bs) p n c P e).2.1 = T))) 109 [(0, .ref 67), (1, .ref 63), (2, .ref 2), (3, .int (zI j))] [] (rH h e sx P) := by
    intro c
    induction c with
    | zero =>
      intro j P e sx hj hP
      have : j = 60 := by omega
      subst this
      refine sw_iload_n 110 dX6_scan_109 rfl rfl rfl ?_
      refine sw_bipush (v := zI 60) 112 dX6_scan_110 rfl (by decide) ?_
      refine sw_icmp_ge 155 115 dX6_scan_112 (by decide) rfl (fun c112 => ?_) (fun c112 => ?_)
      · refine sw_aload_n 156 dX6_scan_155 rfl rfl rfl ?_
        refine sw_getI 159 dX6_scan_156 rfl gf_RX6_21 rfl ⟨by decide, rfl⟩ ?_
        rw [rH_place]
        refine sw_aload_n 160 dX6_scan_159 rfl rfl rfl ?_
        refine sw_getI 163 dX6_scan_160 rfl gf_RX6_38 rfl ⟨by decide, rfl⟩ ?_
        rw [g1]
        refine sw_icmp_ne 170 166 dX6_scan_163 (by decide) rfl (fun c163 => ?_) (fun c163 => ?_)
        · refine sw_iconst (v := zI 0) 171 dX6_scan_170 rfl (by decide) ?_
          exact sw_zret (by first | exact Or.inl rfl | exact Or.inr rfl | assumption) dX6_scan_171 rfl (by
  rw [zI_eq (by omega) (by omega) (by omega) (by omega)] at c163
  rw [show starR (tbZ T bs) p n 0 P e = (true, P, e) from rfl]
  refine ⟨rfl, ?_⟩
  simp only [Bool.true_and]
  first
  | (rw [decide_eq_false (show ¬ P = T by omega)]; rfl)
  | (rw [decide_eq_true (show P = T by omega)]; rfl))
        · refine sw_iconst (v := zI 1) 167 dX6_scan_166 rfl (by decide) ?_
          refine sw_goto 171 dX6_scan_167 (by decide) ?_
          exact sw_zret (by first | exact Or.inl rfl | exact Or.inr rfl | assumption) dX6_scan_171 rfl (by
  rw [zI_eq (by omega) (by omega) (by omega) (by omega)] at c163
  rw [show starR (tbZ T bs) p n 0 P e = (true, P, e) from rfl]
  refine ⟨rfl, ?_⟩
  simp only [Bool.true_and]
  first
  | (rw [decide_eq_false (show ¬ P = T by omega)]; rfl)
  | (rw [decide_eq_true (show P = T by omega)]; rfl))
      · exact absurd (Int32.le_refl _) c112
    | succ c ih =>
      intro j P e sx hj hP
      have hbP := hb P
      have hfb := facR_b (tbZ T bs) p n (P + 1)
      have le : starR (tbZ T bs) p n (c + 1) P e = if tbZ T bs P = 42 then (if (facR (tbZ T bs) p n (P + 1)).1 then starR (tbZ T bs) p n c (facR (tbZ T bs) p n (P + 1)).2.1 (addE e (facR (tbZ T bs) p n (P + 1)).2.2.1 (facR (tbZ T bs) p n (P + 1)).2.2.2) else (false, (facR (tbZ T bs) p n (P + 1)).2.1, e)) else (true, P, e) := rfl
      refine sw_iload_n 110 dX6_scan_109 rfl rfl rfl ?_
      refine sw_bipush (v := zI 60) 112 dX6_scan_110 rfl (by decide) ?_
      refine sw_icmp_ge 155 115 dX6_scan_112 (by decide) rfl (fun c112 => ?_) (fun c112 => ?_)
      · exact absurd c112 (by rw [zI_le (by omega) (by omega) (by omega) (by omega)]; omega)
      · refine sw_aload_n 116 dX6_scan_115 rfl rfl rfl ?_
        refine sw_aload_n 117 dX6_scan_116 rfl rfl rfl ?_
        refine sw_getI 120 dX6_scan_117 rfl gf_RX6_21 rfl ⟨by decide, rfl⟩ ?_
        rw [rH_place]
        refine sw_invVI 123 dX6_scan_120 rfl lk_RX6_25 (c_tape (g1 e sx P) hT (g2 e sx P) (by omega)) ⟨by decide, rfl⟩ rfl rfl (Nat.le_of_ble_eq_true rfl) (fun r120 h120 hq120 => ?_)
        obtain ⟨rfl, rfl⟩ := hq120
        refine sw_bipush (v := zI 42) 125 dX6_scan_123 rfl (by decide) ?_
        refine sw_icmp_ne 155 128 dX6_scan_125 (by decide) rfl (fun c125 => ?_) (fun c125 => ?_)
        · rw [zI_eq (by omega) (by omega) (by omega) (by omega)] at c125
          rw [if_neg c125] at le
          refine sw_aload_n 156 dX6_scan_155 rfl rfl rfl ?_
          refine sw_getI 159 dX6_scan_156 rfl gf_RX6_21 rfl ⟨by decide, rfl⟩ ?_
          rw [rH_place]
          refine sw_aload_n 160 dX6_scan_159 rfl rfl rfl ?_
          refine sw_getI 163 dX6_scan_160 rfl gf_RX6_38 rfl ⟨by decide, rfl⟩ ?_
          rw [g1]
          refine sw_icmp_ne 170 166 dX6_scan_163 (by decide) rfl (fun c163 => ?_) (fun c163 => ?_)
          · refine sw_iconst (v := zI 0) 171 dX6_scan_170 rfl (by decide) ?_
            exact sw_zret (by first | exact Or.inl rfl | exact Or.inr rfl | assumption) dX6_scan_171 rfl (by
  rw [zI_eq (by omega) (by omega) (by omega) (by omega)] at c163
  rw [le]
  refine ⟨rfl, ?_⟩
  simp only [Bool.true_and]
  first
  | (rw [decide_eq_false (show ¬ P = T by omega)]; rfl)
  | (rw [decide_eq_true (show P = T by omega)]; rfl))
          · refine sw_iconst (v := zI 1) 167 dX6_scan_166 rfl (by decide) ?_
            refine sw_goto 171 dX6_scan_167 (by decide) ?_
            exact sw_zret (by first | exact Or.inl rfl | exact Or.inr rfl | assumption) dX6_scan_171 rfl (by
  rw [zI_eq (by omega) (by omega) (by omega) (by omega)] at c163
  rw [le]
  refine ⟨rfl, ?_⟩
  simp only [Bool.true_and]
  first
  | (rw [decide_eq_false (show ¬ P = T by omega)]; rfl)
  | (rw [decide_eq_true (show P = T by omega)]; rfl))
        · rw [zI_eq (by omega) (by omega) (by omega) (by omega)] at c125
          rw [if_pos c125] at le
          have hPT : P < T := by
            rcases Nat.lt_or_ge P T with h9 | h9
            · exact h9
            · unfold tbZ at c125; rw [if_neg (by omega)] at c125; omega
          refine sw_aload_n 129 dX6_scan_128 rfl rfl rfl ?_
          refine sw_dup 130 dX6_scan_129 rfl rfl ?_
          refine sw_getI 133 dX6_scan_130 rfl gf_RX6_21 rfl ⟨by decide, rfl⟩ ?_
          rw [rH_place]
          refine sw_iconst (v := zI 1) 134 dX6_scan_133 rfl (by decide) ?_
          refine sw_iadd 135 dX6_scan_134 rfl ?_
          rw [zI_add]
          refine sw_putI 138 dX6_scan_135 rfl pf_RX6_21 rfl ⟨by decide, rfl⟩ ?_
          rw [show ((P : Int) + 1) = ((P + 1 : Nat) : Int) from rfl, rH_P]
          refine sw_aload_n 139 dX6_scan_138 rfl rfl rfl ?_
          refine sw_aload_n 140 dX6_scan_139 rfl rfl rfl ?_
          refine sw_aload_n 141 dX6_scan_140 rfl rfl rfl ?_
          refine sw_invVI 144 dX6_scan_141 rfl lk_RX6_41 (c_R_scanFactor h1 hT h2 V (show P + 1 ≤ 190 by omega)) ⟨by decide, rfl⟩ rfl rfl (Nat.le_of_ble_eq_true rfl) (fun r141 h141 hq141 => ?_)
          obtain ⟨rfl, rfl⟩ := hq141
          refine sw_if_ne 149 147 dX6_scan_144 (by decide) rfl (fun c144 => ?_) (fun c144 => ?_)
          · refine sw_iinc (v := zI 1) (lc' := [(0, _), (1, _), (2, _), (3, _)]) 152 dX6_scan_149 rfl (by decide) rfl rfl rfl ?_
            refine sw_goto 109 dX6_scan_152 (by decide) ?_
            have hfg : (facR (tbZ T bs) p n (P + 1)).1 = true := by
              cases hfg : (facR (tbZ T bs) p n (P + 1)).1 with
              | true => rfl
              | false => rw [hfg] at c144; exact absurd rfl c144
            rw [hfg, if_pos rfl] at le
            rw [zI_add, hfg, if_pos rfl, le]
            exact ih (j + 1) _ _ sx (by omega) (by omega)
          · have hfg : (facR (tbZ T bs) p n (P + 1)).1 = false := by
              cases hfg : (facR (tbZ T bs) p n (P + 1)).1 with
              | false => rfl
              | true => rw [hfg] at c144; exact absurd c144 (by decide)
            rw [hfg] at le ⊢
            refine sw_iconst (v := zI 0) 148 dX6_scan_147 rfl (by decide) ?_
            exact sw_zret (by first | exact Or.inl rfl | exact Or.inr rfl | assumption) dX6_scan_148 rfl (⟨by rw [le]; rfl, by rw [le]; rfl⟩)
  have body : ∀ (P : Nat) (sx : Int), P ≤ 1 → sw_wp wA X l (d + 3) mX6_scan (sw_qI wA X fun r g => g = rH h (bodyR (tbZ T bs) p n T 60 P).2.2 sx (bodyR (tbZ T bs) p n T 60 P).2.1 ∧ r = bI (bodyR (tbZ T bs) p n T 60 P).1) 40 [(0, .ref 67), (1, .ref 63), (2, .ref 2)] [] (rH h (fun _ => 0) sx P) := by
    intro P sx hP
    have hbP := hb P
    have hbP1 := hb (P + 1)
    have hfb := facR_b (tbZ T bs) p n P
    have le : bodyR (tbZ T bs) p n T 60 P = if tbZ T bs P = 49 ∧ figZ (tbZ T bs (P + 1)) = false then (decide (P + 1 = T), P + 1, fun _ => 0) else if (facR (tbZ T bs) p n P).1 then ((starR (tbZ T bs) p n 60 (facR (tbZ T bs) p n P).2.1 (addE (fun _ => 0) (facR (tbZ T bs) p n P).2.2.1 (facR (tbZ T bs) p n P).2.2.2)).1 && decide ((starR (tbZ T bs) p n 60 (facR (tbZ T bs) p n P).2.1 (addE (fun _ => 0) (facR (tbZ T bs) p n P).2.2.1 (facR (tbZ T bs) p n P).2.2.2)).2.1 = T), (starR (tbZ T bs) p n 60 (facR (tbZ T bs) p n P).2.1 (addE (fun _ => 0) (facR (tbZ T bs) p n P).2.2.1 (facR (tbZ T bs) p n P).2.2.2)).2.1, (starR (tbZ T bs) p n 60 (facR (tbZ T bs) p n P).2.1 (addE (fun _ => 0) (facR (tbZ T bs) p n P).2.2.1 (facR (tbZ T bs) p n P).2.2.2)).2.2) else (false, (facR (tbZ T bs) p n P).2.1, fun _ => 0) := rfl
    have rest : ¬ (tbZ T bs P = 49 ∧ figZ (tbZ T bs (P + 1)) = false) → sw_wp wA X l (d + 3) mX6_scan (sw_qI wA X fun r g => g = rH h (bodyR (tbZ T bs) p n T 60 P).2.2 sx (bodyR (tbZ T bs) p n T 60 P).2.1 ∧ r = bI (bodyR (tbZ T bs) p n T 60 P).1) 96 [(0, .ref 67), (1, .ref 63), (2, .ref 2)] [] (rH h (fun _ => 0) sx P) := by
      intro hne
      rw [if_neg hne] at le
      refine sw_aload_n 97 dX6_scan_96 rfl rfl rfl ?_
      refine sw_aload_n 98 dX6_scan_97 rfl rfl rfl ?_
      refine sw_aload_n 99 dX6_scan_98 rfl rfl rfl ?_
      refine sw_invVI 102 dX6_scan_99 rfl lk_RX6_41 (c_R_scanFactor h1 hT h2 V (show P ≤ 190 by omega)) ⟨by decide, rfl⟩ rfl rfl (Nat.le_of_ble_eq_true rfl) (fun r99 h99 hq99 => ?_)
      obtain ⟨rfl, rfl⟩ := hq99
      refine sw_if_ne 107 105 dX6_scan_102 (by decide) rfl (fun c102 => ?_) (fun c102 => ?_)
      · refine sw_iconst (v := zI 0) 108 dX6_scan_107 rfl (by decide) ?_
        refine sw_istore_n (lc' := [(0, _), (1, _), (2, _), (3, _)]) 109 dX6_scan_108 rfl rfl (by decide) rfl ?_
        have hfg : (facR (tbZ T bs) p n P).1 = true := by
          cases hfg : (facR (tbZ T bs) p n P).1 with
          | true => rfl
          | false => rw [hfg] at c102; exact absurd rfl c102
        rw [hfg, if_pos rfl] at le
        rw [hfg, if_pos rfl, le]
        exact loop 60 0 _ _ sx (by omega) (by omega)
      · have hfg : (facR (tbZ T bs) p n P).1 = false := by
          cases hfg : (facR (tbZ T bs) p n P).1 with
          | false => rfl
          | true => rw [hfg] at c102; exact absurd c102 (by decide)
        rw [hfg] at le ⊢
        refine sw_iconst (v := zI 0) 106 dX6_scan_105 rfl (by decide) ?_
        exact sw_zret (by first | exact Or.inl rfl | exact Or.inr rfl | assumption) dX6_scan_106 rfl (⟨by rw [le]; rfl, by rw [le]; rfl⟩)
    refine sw_aload_n 41 dX6_scan_40 rfl rfl rfl ?_
    refine sw_aload_n 42 dX6_scan_41 rfl rfl rfl ?_
    refine sw_getI 45 dX6_scan_42 rfl gf_RX6_21 rfl ⟨by decide, rfl⟩ ?_
    rw [rH_place]
    refine sw_invVI 48 dX6_scan_45 rfl lk_RX6_25 (c_tape (g1 _ sx P) hT (g2 _ sx P) (by omega)) ⟨by decide, rfl⟩ rfl rfl (Nat.le_of_ble_eq_true rfl) (fun r45 h45 hq45 => ?_)
    obtain ⟨rfl, rfl⟩ := hq45
    refine sw_bipush (v := zI 49) 50 dX6_scan_48 rfl (by decide) ?_
    refine sw_icmp_ne 96 53 dX6_scan_50 (by decide) rfl (fun c50 => ?_) (fun c50 => ?_)
    · rw [zI_eq (by omega) (by omega) (by omega) (by omega)] at c50
      exact rest (fun q => c50 q.1)
    · rw [zI_eq (by omega) (by omega) (by omega) (by omega)] at c50
      refine sw_aload_n 54 dX6_scan_53 rfl rfl rfl ?_
      refine sw_aload_n 55 dX6_scan_54 rfl rfl rfl ?_
      refine sw_getI 58 dX6_scan_55 rfl gf_RX6_21 rfl ⟨by decide, rfl⟩ ?_
      rw [rH_place]
      refine sw_iconst (v := zI 1) 59 dX6_scan_58 rfl (by decide) ?_
      refine sw_iadd 60 dX6_scan_59 rfl ?_
      rw [zI_add, show ((P : Int) + 1) = ((P + 1 : Nat) : Int) from rfl]
      refine sw_invVI 63 dX6_scan_60 rfl lk_RX6_25 (c_tape (g1 _ sx P) hT (g2 _ sx P) (by omega)) ⟨by decide, rfl⟩ rfl rfl (Nat.le_of_ble_eq_true rfl) (fun r60 h60 hq60 => ?_)
      obtain ⟨rfl, rfl⟩ := hq60
      refine sw_invSI 66 dX6_scan_63 rfl lk_RX6_34 (c_R_isFigure (by omega) (by omega)) rfl rfl (Nat.le_of_ble_eq_true rfl) (fun r63 h63 hq63 => ?_)
      obtain ⟨rfl, rfl⟩ := hq63
      refine sw_if_ne 96 69 dX6_scan_66 (by decide) rfl (fun c66 => ?_) (fun c66 => ?_)
      · exact rest (fun q => by rw [q.2] at c66; exact c66 rfl)
      · have hfg : figZ (tbZ T bs (P + 1)) = false := by
          cases hfg : figZ (tbZ T bs (P + 1)) with
          | false => rfl
          | true => rw [hfg] at c66; exact absurd c66 (by decide)
        rw [if_pos ⟨c50, hfg⟩] at le
        refine sw_aload_n 70 dX6_scan_69 rfl rfl rfl ?_
        refine sw_dup 71 dX6_scan_70 rfl rfl ?_
        refine sw_getI 74 dX6_scan_71 rfl gf_RX6_21 rfl ⟨by decide, rfl⟩ ?_
        rw [rH_place]
        refine sw_iconst (v := zI 1) 75 dX6_scan_74 rfl (by decide) ?_
        refine sw_iadd 76 dX6_scan_75 rfl ?_
        rw [zI_add]
        refine sw_putI 79 dX6_scan_76 rfl pf_RX6_21 rfl ⟨by decide, rfl⟩ ?_
        rw [show ((P : Int) + 1) = ((P + 1 : Nat) : Int) from rfl, rH_P]
        refine sw_aload_n 80 dX6_scan_79 rfl rfl rfl ?_
        refine sw_getI 83 dX6_scan_80 rfl gf_RX6_21 rfl ⟨by decide, rfl⟩ ?_
        rw [rH_place]
        refine sw_aload_n 84 dX6_scan_83 rfl rfl rfl ?_
        refine sw_getI 87 dX6_scan_84 rfl gf_RX6_38 rfl ⟨by decide, rfl⟩ ?_
        rw [g1]
        refine sw_icmp_ne 94 90 dX6_scan_87 (by decide) rfl (fun c87 => ?_) (fun c87 => ?_)
        · refine sw_iconst (v := zI 0) 95 dX6_scan_94 rfl (by decide) ?_
          exact sw_zret (by first | exact Or.inl rfl | exact Or.inr rfl | assumption) dX6_scan_95 rfl (by
  rw [zI_eq (by omega) (by omega) (by omega) (by omega)] at c87
  rw [le]
  refine ⟨rfl, ?_⟩
  simp only
  first
  | (rw [decide_eq_false (show ¬ P + 1 = T by omega)]; rfl)
  | (rw [decide_eq_true (show P + 1 = T by omega)]; rfl))
        · refine sw_iconst (v := zI 1) 91 dX6_scan_90 rfl (by decide) ?_
          refine sw_goto 95 dX6_scan_91 (by decide) ?_
          exact sw_zret (by first | exact Or.inl rfl | exact Or.inr rfl | assumption) dX6_scan_95 rfl (by
  rw [zI_eq (by omega) (by omega) (by omega) (by omega)] at c87
  rw [le]
  refine ⟨rfl, ?_⟩
  simp only
  first
  | (rw [decide_eq_false (show ¬ P + 1 = T by omega)]; rfl)
  | (rw [decide_eq_true (show P + 1 = T by omega)]; rfl))
  have e0 : ∀ g : sw_H, g = uH h 68 69 (fun k => if k < 4 then zI 0 else h.1 69 k) (zI 1) → sw_wI g 67 1 (zI 0) = rH h (fun _ => 0) 1 0 := fun g hg => by rw [hg]; rfl
  refine sw_aload_n 1 dX6_scan_0 rfl rfl rfl ?_
  refine sw_getR (b := 68) 4 dX6_scan_1 rfl gf_RX6_12 (fun _ _ _ _ => rfl) ⟨by decide, rfl⟩ rfl ?_
  refine sw_invVV 7 dX6_scan_4 rfl lk_RX6_18 (c_U_setOne isU_read) ⟨by decide, rfl⟩ rfl rfl (Nat.le_of_ble_eq_true rfl) (fun h4 hq4 => ?_)
  subst hq4
  refine sw_aload_n 8 dX6_scan_7 rfl rfl rfl ?_
  refine sw_iconst (v := zI 0) 9 dX6_scan_8 rfl (by decide) ?_
  refine sw_putI 12 dX6_scan_9 rfl pf_RX6_21 rfl ⟨by decide, rfl⟩ ?_
  rw [e0 _ rfl]
  refine sw_aload_n 13 dX6_scan_12 rfl rfl rfl ?_
  refine sw_iconst (v := zI 0) 14 dX6_scan_13 rfl (by decide) ?_
  refine sw_invVI 17 dX6_scan_14 rfl lk_RX6_25 (c_tape (P := 0) (g1 _ _ 0) hT (g2 _ _ 0) (by omega)) ⟨by decide, rfl⟩ rfl rfl (Nat.le_of_ble_eq_true rfl) (fun r14 h14 hq14 => ?_)
  obtain ⟨rfl, rfl⟩ := hq14
  refine sw_bipush (v := zI 45) 19 dX6_scan_17 rfl (by decide) ?_
  refine sw_icmp_ne 40 22 dX6_scan_19 (by decide) rfl (fun c19 => ?_) (fun c19 => ?_)
  · have hb0 := hb 0
    rw [zI_eq (by omega) (by omega) (by omega) (by omega)] at c19
    rw [show rdP (tbZ T bs) = 0 by unfold rdP; rw [if_neg c19], show rdS (tbZ T bs) = 1 by unfold rdS; rw [if_neg c19]]
    exact body 0 1 (by omega)
  · have hb0 := hb 0
    rw [zI_eq (by omega) (by omega) (by omega) (by omega)] at c19
    refine sw_aload_n 23 dX6_scan_22 rfl rfl rfl ?_
    refine sw_getR (b := 68) 26 dX6_scan_23 rfl gf_RX6_12 (fun _ _ _ _ => rfl) ⟨by decide, rfl⟩ rfl ?_
    refine sw_iconst (v := zI (-1)) 27 dX6_scan_26 rfl (by decide) ?_
    refine sw_putI 30 dX6_scan_27 rfl pf_RX6_31 rfl ⟨by decide, rfl⟩ ?_
    rw [rH_s]
    refine sw_aload_n 31 dX6_scan_30 rfl rfl rfl ?_
    refine sw_dup 32 dX6_scan_31 rfl rfl ?_
    refine sw_getI 35 dX6_scan_32 rfl gf_RX6_21 rfl ⟨by decide, rfl⟩ ?_
    rw [rH_place]
    refine sw_iconst (v := zI 1) 36 dX6_scan_35 rfl (by decide) ?_
    refine sw_iadd 37 dX6_scan_36 rfl ?_
    rw [zI_add]
    refine sw_putI 40 dX6_scan_37 rfl pf_RX6_21 rfl ⟨by decide, rfl⟩ ?_
    rw [show (((0 : Nat) : Int) + 1) = ((1 : Nat) : Int) from rfl, rH_P, show rdP (tbZ T bs) = 1 by unfold rdP; rw [if_pos c19], show rdS (tbZ T bs) = -1 by unfold rdS; rw [if_pos c19]]
    exact body 1 (-1) (by omega)
end sw_reader
