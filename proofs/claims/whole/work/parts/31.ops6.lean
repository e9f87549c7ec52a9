/-! THE CLASS'S CALLS, 6: texts, lists, image, count -/
def setTp (σ : SgZ) (t : Nat × (Nat → Int)) : SgZ := (σ.1, σ.2.1, t, σ.2.2.2)
def setLs (σ : SgZ) (j : Nat) (z : Int) (c : Nat → Int64) : SgZ := (σ.1, σ.2.1, σ.2.2.1, (va_up σ.2.2.2.1 j z, va_up σ.2.2.2.2 j c))
theorem IA_tp {h h2 : sw_H} {σ : SgZ} {t : Nat × (Nat → Int)} (I : IA h σ) (A : ∀ a, a ≠ 63 → a ≠ 64 → h2.1 a = h.1 a) (B : h2.2 = h.2) (V : iaT h2 t) : IA h2 (setTp σ t) := by
  obtain ⟨i1, i2, i3, i4, i5, i6, i7⟩ := I
  exact ⟨dkA_ag i1 (fun a h1 h2 => A a (by omega) (by omega)), iaM_ag i2 (by rw [A 0 (by omega) (by omega)]) (fun a h1 h2 => A a (by omega) (by omega)), iaK_ag i3 (by rw [A 0 (by omega) (by omega)]) (fun a h1 h2 => ⟨A a (by omega) (by omega), by rw [B]⟩), iaL_ag i4 (by rw [A 0 (by omega) (by omega)]) (by rw [A 0 (by omega) (by omega)]), V, iaS_ag i6 (fun a h1 h2 => ⟨A a (by omega) (by omega), by rw [B]⟩), iaF_ag i7 (fun a h1 => A a (by omega) (by omega))⟩
theorem IA_ls {h : sw_H} {σ : SgZ} {j : Nat} {z : Int} {f : Nat → Int64} {c : Nat → Int64} (I : IA h σ) (hj : j < 3) (hf : ∀ i : Nat, (i : Int) < z → f i = c i) : IA (sw_wI (sw_pL h (72 + j) f) 75 j (zI z)) (setLs σ j z c) := by
  obtain ⟨i1, i2, i3, i4, i5, i6, i7⟩ := I
  have A : ∀ a, a ≠ 75 → (sw_wI (sw_pL h (72 + j) f) 75 j (zI z)).1 a = h.1 a := fun a h1 => by rw [sw_wI_ne h1]; rfl
  have B : ∀ a, a ≠ 72 + j → (sw_wI (sw_pL h (72 + j) f) 75 j (zI z)).2 a = h.2 a := fun a h1 => sw_pL_ne h1
  have B2 : (sw_wI (sw_pL h (72 + j) f) 75 j (zI z)).2 (72 + j) = f := sw_pL_at
  refine ⟨dkA_ag i1 (fun a h1 h2 => A a (by omega)), iaM_ag i2 (by rw [A 0 (by omega)]) (fun a h1 h2 => A a (by omega)), iaK_ag i3 (by rw [A 0 (by omega)]) (fun a h1 h2 => ⟨A a (by omega), B a (by omega)⟩), iaL_ag i4 (by rw [A 0 (by omega)]) (by rw [A 0 (by omega)]), iaT_ag i5 (fun a h1 h2 => A a (by omega)), fun t ht => ?_, iaF_ag i7 (fun a h1 => A a (by omega))⟩
  show _ = zI (va_up σ.2.2.2.1 j z t) ∧ ∀ i : Nat, (i : Int) < va_up σ.2.2.2.1 j z t → _ = va_up σ.2.2.2.2 j c t i
  by_cases e : t = j
  · subst e
    simp only [va_up, if_pos]
    refine ⟨by rw [sw_wI_at]; simp [va_up], fun i hi => by rw [B2]; exact hf i hi⟩
  · simp only [va_up, if_neg e]
    refine ⟨by rw [sw_wI_at]; simp only [va_up, if_neg e]; exact (i6 t ht).1, fun i hi => by rw [B _ (by omega)]; exact (i6 t ht).2 i hi⟩
/-- a long laid -/
theorem IA_lay {h : sw_H} {σ : SgZ} {j i : Nat} {v : Int64} (I : IA h σ) (hj : j < 3) (hi : (i : Int) < σ.2.2.2.1 j) : IA (sw_wL h (72 + j) i v) (setLs σ j (σ.2.2.2.1 j) (va_up (σ.2.2.2.2 j) i v)) := by
  have e : sw_wL h (72 + j) i v = sw_wI (sw_pL h (72 + j) (va_up (h.2 (72 + j)) i v)) 75 j (zI (σ.2.2.2.1 j)) := by
    rw [sw_wI_p, sw_wL_p]
    have e1 : (sw_pL h (72 + j) (va_up (h.2 (72 + j)) i v)).1 75 = h.1 75 := rfl
    rw [sw_pI_self]
    rw [e1]
    funext t
    unfold va_up
    by_cases c : t = j
    · rw [if_pos c, c]; exact ((I.2.2.2.2.2.1 j hj).1).symm
    · rw [if_neg c]
  rw [e]
  refine IA_ls I hj (fun t ht => ?_)
  unfold va_up
  by_cases c : t = i
  · rw [if_pos c, if_pos c]
  · rw [if_neg c, if_neg c]; exact (I.2.2.2.2.2.1 j hj).2 t ht
def opFeed (σ : SgZ) (b : Int) : RgZ := if b < 32 ∨ 126 < b then (-2, σ) else if σ.2.2.1.1 < 60 then (((σ.2.2.1.1 + 1 : Nat) : Int), setTp σ (σ.2.2.1.1 + 1, va_up σ.2.2.1.2 σ.2.2.1.1 b)) else (-4, σ)
def opWipe (σ : SgZ) : RgZ := (σ.2.2.1.1, setTp σ (0, σ.2.2.1.2))
abbrev tpS (σ : SgZ) : Nat → Int := tbZ σ.2.2.1.1 σ.2.2.1.2
abbrev rdB (σ : SgZ) : Bool × Nat × (Nat → Int) := bodyR (tpS σ) σ.1.1.2.1 σ.1.1.1 σ.2.2.1.1 60 (rdP (tpS σ))
def opRead (σ : SgZ) (s : Int) : RgZ :=
  if 0 ≤ s ∧ s < 4 then (if (rdB σ).1 = true then (if topZ (rdB σ).2.2 4 ≤ 6 then (1, setSh (setTp σ (0, σ.2.2.1.2)) s.toNat (rdS (tpS σ)) (rdB σ).2.2) else (-9, setTp σ (0, σ.2.2.1.2))) else (-100 - (rdB σ).2.1, setTp σ (0, σ.2.2.1.2))) else (-1, σ)
def spS (σ : SgZ) (s : Nat) : List Int := spellZ (σ.1.2.1.1 s) σ.1.1.2.1 (σ.1.2.1.2 s) σ.1.1.1
def opSpelled (σ : SgZ) (s i : Int) : Int := if (0 ≤ s ∧ s < 4) ∧ -1 ≤ i then (if i = -1 then (spS σ s.toNat).length else if i < (spS σ s.toNat).length then (spS σ s.toNat).getD i.toNat 0 else -1) else -1
def opList (σ : SgZ) (j n : Int) : RgZ := if 0 ≤ j ∧ j < 3 then (if 20 < n then (-2, σ) else if n < -1 then (-14, σ) else (1, setLs σ j.toNat n (fun _ => zL 0))) else (-1, σ)
def opLay (σ : SgZ) (j i : Int) (v : Int64) : RgZ := if 0 ≤ j ∧ j < 3 then (if σ.2.2.2.1 j.toNat < 0 then (-11, σ) else if 0 ≤ i ∧ i < σ.2.2.2.1 j.toNat then (1, setLs σ j.toNat (σ.2.2.2.1 j.toNat) (va_up (σ.2.2.2.2 j.toNat) i.toNat v)) else (-13, σ)) else (-1, σ)
def opGet (σ : SgZ) (j i : Int) : Int64 := if (0 ≤ j ∧ j < 3) ∧ (0 ≤ i ∧ i < σ.2.2.2.1 j.toNat) then σ.2.2.2.2 j.toNat i.toNat else zL vOID
def tolR (T : TbZ) (i k : Nat) : Int64 := zL (if k % 2 = 0 then T.2.1 (i + k / 2) else T.2.2.1 (i + k / 2))
def opFilm (T : TbZ) (σ : SgZ) (j i : Int) : RgZ := if (0 ≤ j ∧ j < 3) ∧ (0 ≤ i ∧ i < T.1) then (min 10 (T.1 - i), setLs σ j.toNat (2 * min 10 (T.1 - i)) (fun k => tolR T i.toNat k)) else (-1, σ)
def jdgZ (T : TbZ) (c : Nat → Int64) (i : Nat) (R : Int) : Nat → Nat → Int
  | 0, _ => R
  | f + 1, k => if T.1 ≤ i + k / 2 ∨ ¬ c k = tolR T i k then (k : Int) else jdgZ T c i R f (k + 1)
def opJudge (T : TbZ) (σ : SgZ) (j i : Int) : Int := if (0 ≤ j ∧ j < 3) ∧ 0 ≤ i then (if σ.2.2.2.1 j.toNat < 0 then -11 else jdgZ T (σ.2.2.2.2 j.toNat) i.toNat (100 + σ.2.2.2.1 j.toNat) (σ.2.2.2.1 j.toNat).toNat 0) else -1
def opImage (σ : SgZ) : RgZ := (σ.1.1.1, (σ.1, some σ.1, σ.2.2))
def opUndo (σ : SgZ) : RgZ := match σ.2.1 with
  | none => (-3, σ)
  | some E => (E.1.1, (E, σ.2))
def opCount (σ : SgZ) (x : Int) : Int := if x = 0 then σ.1.1.1 else if x = 1 then σ.1.2.2.1 else if x = 2 then σ.2.2.1.1 else if x = 3 then thereN σ.2.2.2.1 3 else if x = 4 then pairsN σ 4 else -1
theorem bodyZ_len (p e : Nat → Int) : ∀ m i φ, (bodyZ p e m i φ).length ≤ 6 * m
  | 0, _, _ => by unfold bodyZ; simp
  | m + 1, i, φ => by
    unfold bodyZ
    by_cases c : e i = 0
    · rw [if_pos c]; have := bodyZ_len p e m (i + 1) φ; omega
    · rw [if_neg c]
      have h1 := bodyZ_len p e m (i + 1) false
      have h2 := facZ_len (p i) (e i)
      simp only [List.length_append]
      have h3 : (if φ then ([] : List Int) else [42]).length ≤ 1 := by cases φ <;> simp
      omega
theorem spS_len {σ : SgZ} (K : okS σ) (s : Nat) : (spS σ s).length ≤ 26 := by
  unfold spS spellZ
  have h1 := bodyZ_len σ.1.1.2.1 (σ.1.2.1.2 s) σ.1.1.1 0 true
  have h2 := K.1.1.1
  simp only [List.length_append]
  have h3 : (if σ.1.2.1.1 s < 0 then ([45] : List Int) else []).length ≤ 1 := by split <;> simp
  have h4 : (if firstZ (σ.1.2.1.2 s) σ.1.1.1 0 true = true then ([49] : List Int) else []).length ≤ 1 := by split <;> simp
  omega
section sw_ops6
variable {X : sw_X} {l : Launch} {d : Nat} {h : sw_H} {σ : SgZ}
theorem c_Y_full {w : sw_W} {t row m : Nat} (S : isY w t row m) (hk : h.1 t 1 = zI m) (x : Int) : sw_ct w X l d mX2_add [.ref t, .int (zI x)] h (sw_qI w X fun r h2 => h2 = h ∧ r = zI 0) := by
  obtain ⟨s1, s2, s3, s4, s5⟩ := S
  refine sw_ct_of (by decide +kernel) (Nat.le_of_ble_eq_true rfl) rfl ?_
  refine sw_aload_n 1 dX2_add_0 rfl rfl rfl ?_
  refine sw_getI 4 dX2_add_1 rfl gf_RX2_19 rfl (by first | assumption | exact ⟨by decide, rfl⟩) ?_
  refine sw_aload_n 5 dX2_add_4 rfl rfl rfl ?_
  refine sw_getR 8 dX2_add_5 rfl gf_RX2_13 (fun _ _ _ _ => rfl) (by first | assumption | exact ⟨by decide, rfl⟩) (by first | assumption | rfl) ?_
  refine sw_alen 9 dX2_add_8 rfl (by first | assumption | exact ⟨by decide, rfl⟩) (by decide) ?_
  rw [hk]
  refine sw_icmp_lt 14 12 dX2_add_9 (by decide) rfl (fun c9 => ?_) (fun c9 => ?_)
  · exact absurd c9 (by rw [show Int32.ofNat m = zI m from nI_z m, zI_lt (by omega) (by omega) (by omega) (by omega)]; omega)
  · refine sw_iconst (v := zI 0) 13 dX2_add_12 rfl (by decide) ?_
    exact sw_zret (by first | exact Or.inl rfl | exact Or.inr rfl | assumption) dX2_add_13 rfl (⟨rfl, rfl⟩)
theorem a_feed (K : okS σ) (I : IA h σ) {b : Int} (b1 : -2147483648 ≤ b) (b2 : b < 2147483648) : sw_ct wA X l (d + 1) mX11_feed [.ref 0, .int (zI b)] h (sw_qI wA X fun r h2 => IA h2 (opFeed σ b).2 ∧ r = zI (opFeed σ b).1) := by
  obtain ⟨t1, t2⟩ := I.2.2.2.2.1
  have hT := K.2.2.1.1
  have ca : sw_ct wA X l d mX2_add [.ref 63, .int (zI b)] h (sw_qI wA X fun r h2 => (σ.2.2.1.1 < 60 → r = zI 1 ∧ h2 = yH h 63 64 (appR (h.1 64) σ.2.2.1.1 [b]) (σ.2.2.1.1 + 1)) ∧ (¬ σ.2.2.1.1 < 60 → r = zI 0 ∧ h2 = h)) := by
    by_cases c : σ.2.2.1.1 < 60
    · have e := c_Y_add (X := X) (l := l) (d := d) (h := h) (f := h.1 64) isY_tape c b
      rw [← yH_self isY_tape t1] at e
      exact sw_ct_monoI (fun r h2 q => ⟨fun _ => ⟨q.2, q.1⟩, fun c2 => absurd c c2⟩) e
    · exact sw_ct_monoI (fun r h2 q => ⟨fun c2 => absurd c2 c, fun _ => ⟨q.2, q.1⟩⟩) (c_Y_full isY_tape (by rw [t1, show σ.2.2.1.1 = 60 by omega]) b)
  refine sw_ct_of (by decide +kernel) (Nat.le_of_ble_eq_true rfl) rfl ?_
  refine sw_iload_n 1 dX11_feed_0 rfl rfl rfl ?_
  refine sw_bipush (v := zI 32) 3 dX11_feed_1 rfl (by decide) ?_
  refine sw_icmp_lt 12 6 dX11_feed_3 (by decide) rfl (fun c3 => ?_) (fun c3 => ?_)
  · refine sw_bipush (v := zI (-2)) 14 dX11_feed_12 rfl (by decide) ?_
    exact sw_iret dX11_feed_14 rfl (by
  rw [zI_lt (by omega) (by omega) (by omega) (by omega)] at c3
  unfold opFeed; rw [if_pos (by omega)]; exact ⟨I, rfl⟩)
  · rw [zI_lt (by omega) (by omega) (by omega) (by omega)] at c3
    refine sw_iload_n 7 dX11_feed_6 rfl rfl rfl ?_
    refine sw_bipush (v := zI 126) 9 dX11_feed_7 rfl (by decide) ?_
    refine sw_icmp_le 15 12 dX11_feed_9 (by decide) rfl (fun c9 => ?_) (fun c9 => ?_)
    · rw [zI_le (by omega) (by omega) (by omega) (by omega)] at c9
      refine sw_aload_n 16 dX11_feed_15 rfl rfl rfl ?_
      refine sw_getR (b := 63) 19 dX11_feed_16 rfl gf_RX11_61 (fun _ _ _ _ => rfl) ⟨by decide, rfl⟩ rfl ?_
      refine sw_iload_n 20 dX11_feed_19 rfl rfl rfl ?_
      refine sw_invVI 23 dX11_feed_20 rfl lk_RX11_271 (ca) ⟨by decide, rfl⟩ rfl rfl (Nat.le_of_ble_eq_true rfl) (fun r20 h20 hq20 => ?_)
      obtain ⟨q1, q2⟩ := hq20
      refine sw_if_eq 36 26 dX11_feed_23 (by decide) rfl (fun c23 => ?_) (fun c23 => ?_)
      · refine sw_bipush (v := zI (-4)) 38 dX11_feed_36 rfl (by decide) ?_
        exact sw_iret dX11_feed_38 rfl (by
  by_cases c : σ.2.2.1.1 < 60
  · obtain ⟨rfl, rfl⟩ := q1 c
    exact absurd c23 (by decide)
  · obtain ⟨rfl, rfl⟩ := q2 c
    unfold opFeed; rw [if_neg (by omega), if_neg c]; exact ⟨I, rfl⟩)
      · refine sw_aload_n 27 dX11_feed_26 rfl rfl rfl ?_
        refine sw_getR (b := 63) 30 dX11_feed_27 rfl gf_RX11_61 (fun _ _ _ _ => rfl) ⟨by decide, rfl⟩ rfl ?_
        refine sw_getI 33 dX11_feed_30 rfl gf_RX11_274 rfl ⟨by decide, rfl⟩ ?_
        refine sw_goto 38 dX11_feed_33 (by decide) ?_
        exact sw_iret dX11_feed_38 rfl (by
  by_cases c : σ.2.2.1.1 < 60
  · obtain ⟨rfl, rfl⟩ := q1 c
    unfold opFeed; rw [if_neg (by omega), if_pos c, yH_size isY_tape]
    refine ⟨IA_tp I (fun a h1 h2 => yH_other h1 h2) rfl ⟨yH_size isY_tape, fun i hi => ?_⟩, rfl⟩
    rw [yH_row isY_tape, ← appR_one]
    show va_up (h.1 64) σ.2.2.1.1 (zI b) i = zI (va_up σ.2.2.1.2 σ.2.2.1.1 b i)
    have hi : i < σ.2.2.1.1 + 1 := hi
    unfold va_up
    by_cases c2 : i = σ.2.2.1.1
    · rw [if_pos c2, if_pos c2]
    · rw [if_neg c2, if_neg c2]; exact t2 i (by omega)
  · obtain ⟨rfl, rfl⟩ := q2 c
    exact absurd rfl c23)
    · refine sw_bipush (v := zI (-2)) 14 dX11_feed_12 rfl (by decide) ?_
      exact sw_iret dX11_feed_14 rfl (by
  rw [zI_le (by omega) (by omega) (by omega) (by omega)] at c9
  unfold opFeed; rw [if_pos (by omega)]; exact ⟨I, rfl⟩)
theorem c_clear {g : sw_H} {T : Nat} {t : Nat → Int} (I : IA g σ) (e : h = g) (ht : h.1 63 1 = zI T) : sw_ct wA X l d mX2_clear [.ref 63] h (sw_qV wA X fun h2 => (∀ a, a ≠ 63 → a ≠ 64 → h2.1 a = h.1 a) ∧ IA h2 (setTp σ (0, t))) := by
  subst e
  have e := c_Y_clear (X := X) (l := l) (d := d) (h := h) (f := h.1 64) (k := T) isY_tape
  rw [← yH_self isY_tape ht] at e
  refine sw_ct_monoV (fun h2 q => ?_) e
  subst q
  exact ⟨fun a h1 h2 => yH_other h1 h2, IA_tp I (fun a h1 h2 => yH_other h1 h2) rfl ⟨yH_size isY_tape, fun i hi => absurd hi (Nat.not_lt_zero i)⟩⟩
theorem a_wipe (K : okS σ) (I : IA h σ) : sw_ct wA X l (d + 1) mX11_wipe [.ref 0] h (sw_qI wA X fun r h2 => IA h2 (opWipe σ).2 ∧ r = zI (opWipe σ).1) := by
  obtain ⟨t1, t2⟩ := I.2.2.2.2.1
  refine sw_ct_of (by decide +kernel) (Nat.le_of_ble_eq_true rfl) rfl ?_
  refine sw_aload_n 1 dX11_wipe_0 rfl rfl rfl ?_
  refine sw_getR (b := 63) 4 dX11_wipe_1 rfl gf_RX11_61 (fun _ _ _ _ => rfl) ⟨by decide, rfl⟩ rfl ?_
  refine sw_getI 7 dX11_wipe_4 rfl gf_RX11_274 rfl ⟨by decide, rfl⟩ ?_
  refine sw_istore_n (lc' := [(0, _), (1, _)]) 8 dX11_wipe_7 rfl rfl (by decide) rfl ?_
  refine sw_aload_n 9 dX11_wipe_8 rfl rfl rfl ?_
  refine sw_getR (b := 63) 12 dX11_wipe_9 rfl gf_RX11_61 (fun _ _ _ _ => rfl) ⟨by decide, rfl⟩ rfl ?_
  refine sw_invVV 15 dX11_wipe_12 rfl lk_RX11_275 (c_clear (t := σ.2.2.1.2) I rfl t1) ⟨by decide, rfl⟩ rfl rfl (Nat.le_of_ble_eq_true rfl) (fun h12 hq12 => ?_)
  obtain ⟨-, I2⟩ := hq12
  refine sw_iload_n 16 dX11_wipe_15 rfl rfl rfl ?_
  exact sw_iret dX11_wipe_16 rfl (⟨I2, t1⟩)
theorem a_read (K : okS σ) (I : IA h σ) {s : Int} (s1 : -2147483648 ≤ s) (s2 : s < 2147483648) : sw_ct wA X l (d + 4) mX11_read [.ref 0, .int (zI s)] h (sw_qI wA X fun r h2 => IA h2 (opRead σ s).2 ∧ r = zI (opRead σ s).1) := by
  obtain ⟨t1, t2⟩ := I.2.2.2.2.1
  have hT := K.2.2.1
  have V := IA_B K I
  have cs := c_R_scan (X := X) (l := l) (d := d) (T := σ.2.2.1.1) (bs := σ.2.2.1.2) t1 hT.1 (fun i hi => ⟨t2 i hi, hT.2 i hi⟩) V
  have hb := bodyR_b (tpS σ) σ.1.1.2.1 σ.1.1.1 σ.2.2.1.1 (rdP (tpS σ))
  refine sw_ct_of (by decide +kernel) (Nat.le_of_ble_eq_true rfl) rfl ?_
  refine sw_iload_n 1 dX11_read_0 rfl rfl rfl ?_
  refine sw_invSI 4 dX11_read_1 rfl lk_RX11_124 (c_isShelf s1 s2) rfl rfl (Nat.le_of_ble_eq_true rfl) (fun r1 h1 hq1 => ?_)
  obtain ⟨rfl, rfl⟩ := hq1
  refine sw_if_ne 9 7 dX11_read_4 (by decide) rfl (fun c4 => ?_) (fun c4 => ?_)
  · rw [ifz_eq, Decidable.not_not] at c4
    obtain ⟨a, rfl⟩ := Int.eq_ofNat_of_zero_le c4.1
    have ha : a < 4 := by omega
    have hin1 := zI_inN (a := a) (n := 4) ha (by decide)
    have hrf1 := rf_now ha
    have hU1 := (isU_now ha).1
    refine sw_aload_n 10 dX11_read_9 rfl rfl rfl ?_
    refine sw_getR (b := 67) 13 dX11_read_10 rfl gf_RX11_71 (fun _ _ _ _ => rfl) ⟨by decide, rfl⟩ rfl ?_
    refine sw_aload_n 14 dX11_read_13 rfl rfl rfl ?_
    refine sw_getR (b := 63) 17 dX11_read_14 rfl gf_RX11_61 (fun _ _ _ _ => rfl) ⟨by decide, rfl⟩ rfl ?_
    refine sw_aload_n 18 dX11_read_17 rfl rfl rfl ?_
    refine sw_getR (b := 1) 21 dX11_read_18 rfl gf_RX11_12 (fun _ _ _ _ => rfl) ⟨by decide, rfl⟩ rfl ?_
    refine sw_getR (b := 2) 24 dX11_read_21 rfl gf_RX11_86 (fun _ _ _ _ => rfl) ⟨by decide, rfl⟩ rfl ?_
    refine sw_invVI 27 dX11_read_24 rfl lk_RX11_278 (cs) ⟨by decide, rfl⟩ rfl rfl (Nat.le_of_ble_eq_true rfl) (fun r24 h24 hq24 => ?_)
    obtain ⟨e24, rfl⟩ := hq24
    have I2 : IA h24 σ := by
      rw [e24]
      exact IA_side I (fun a ha => ⟨rH_other (by unfold sideC at ha; omega), rfl⟩)
    have p24 : h24.1 67 1 = zI (rdB σ).2.1 := by rw [e24]; exact rH_place
    have r24 : ∀ i, i < 4 → h24.1 69 i = zI ((rdB σ).2.2 i) := fun i hi => by rw [e24, rH_row]; unfold rowE; rw [if_pos hi]
    have s24 : h24.1 68 1 = zI (rdS (tpS σ)) := by rw [e24]; exact rH_sign
    have k24 : h24.1 63 1 = zI σ.2.2.1.1 := by rw [e24, rH_other (by omega)]; exact t1
    clear e24
    refine sw_istore_n (lc' := [(0, _), (1, _), (2, _)]) 28 dX11_read_27 rfl rfl (by decide) rfl ?_
    refine sw_aload_n 29 dX11_read_28 rfl rfl rfl ?_
    refine sw_getR (b := 63) 32 dX11_read_29 rfl gf_RX11_61 (fun _ _ _ _ => rfl) ⟨by decide, rfl⟩ rfl ?_
    refine sw_invVV 35 dX11_read_32 rfl lk_RX11_275 (c_clear (t := σ.2.2.1.2) I2 rfl k24) ⟨by decide, rfl⟩ rfl rfl (Nat.le_of_ble_eq_true rfl) (fun h32 hq32 => ?_)
    obtain ⟨A, I3⟩ := hq32
    rw [← A 67 (by decide) (by decide)] at p24
    rw [← A 69 (by decide) (by decide)] at r24
    rw [← A 68 (by decide) (by decide)] at s24
    refine sw_iload_n 36 dX11_read_35 rfl rfl rfl ?_
    refine sw_if_ne 50 39 dX11_read_36 (by decide) rfl (fun c36 => ?_) (fun c36 => ?_)
    · rw [bIz_eq, Bool.not_eq_false] at c36
      refine sw_aload_n 51 dX11_read_50 rfl rfl rfl ?_
      refine sw_getR (b := 67) 54 dX11_read_51 rfl gf_RX11_71 (fun _ _ _ _ => rfl) ⟨by decide, rfl⟩ rfl ?_
      refine sw_getR (b := 68) 57 dX11_read_54 rfl gf_RX11_285 (fun _ _ _ _ => rfl) ⟨by decide, rfl⟩ rfl ?_
      refine sw_invVI 60 dX11_read_57 rfl lk_RX11_288 (c_U_isInRange (e := (rdB σ).2.2) isU_read (fun i hi => ⟨r24 i hi, hb i⟩)) ⟨by decide, rfl⟩ rfl rfl (Nat.le_of_ble_eq_true rfl) (fun r57 h57 hq57 => ?_)
      obtain ⟨rfl, rfl⟩ := hq57
      refine sw_if_ne 66 63 dX11_read_60 (by decide) rfl (fun c60 => ?_) (fun c60 => ?_)
      · rw [ifz_eq, Decidable.not_not] at c60
        refine sw_aload_n 67 dX11_read_66 rfl rfl rfl ?_
        refine sw_getR (b := 1) 70 dX11_read_67 rfl gf_RX11_12 (fun _ _ _ _ => rfl) ⟨by decide, rfl⟩ rfl ?_
        refine sw_getR (b := 5) 73 dX11_read_70 rfl gf_RX11_127 (fun _ _ _ _ => rfl) ⟨by decide, rfl⟩ rfl ?_
        refine sw_iload_n 74 dX11_read_73 rfl rfl rfl ?_
        refine sw_aald (b := (8 + 2 * a)) (t := 0) 75 dX11_read_74 rfl ⟨by decide, rfl⟩ (by decide) (by assumption) (by first | assumption | rfl) ?_
        refine sw_aload_n 76 dX11_read_75 rfl rfl rfl ?_
        refine sw_getR (b := 67) 79 dX11_read_76 rfl gf_RX11_71 (fun _ _ _ _ => rfl) ⟨by decide, rfl⟩ rfl ?_
        refine sw_getR (b := 68) 82 dX11_read_79 rfl gf_RX11_285 (fun _ _ _ _ => rfl) ⟨by decide, rfl⟩ rfl ?_
        refine sw_invVV 85 dX11_read_82 rfl lk_RX11_164 (c_U_copy (isU_now ha) isU_read (by omega)) (by first | assumption | exact ⟨by decide, rfl⟩) rfl rfl (Nat.le_of_ble_eq_true rfl) (fun h82 hq82 => ?_)
        subst hq82
        refine sw_iconst (v := zI 1) 86 dX11_read_85 rfl (by decide) ?_
        exact sw_iret dX11_read_86 rfl (by unfold opRead; rw [if_pos c4, if_pos c36, if_pos c60]; exact ⟨IA_copyU I3 ⟨s24, r24⟩ ha, rfl⟩)
      · rw [ifz_eq] at c60
        refine sw_bipush (v := zI (-9)) 65 dX11_read_63 rfl (by decide) ?_
        exact sw_iret dX11_read_65 rfl (by unfold opRead; rw [if_pos c4, if_pos c36, if_neg c60]; exact ⟨I3, rfl⟩)
    · rw [bIz_eq] at c36
      refine sw_bipush (v := zI (-100)) 41 dX11_read_39 rfl (by decide) ?_
      refine sw_aload_n 42 dX11_read_41 rfl rfl rfl ?_
      refine sw_getR (b := 67) 45 dX11_read_42 rfl gf_RX11_71 (fun _ _ _ _ => rfl) ⟨by decide, rfl⟩ rfl ?_
      refine sw_getI 48 dX11_read_45 rfl gf_RX11_282 rfl ⟨by decide, rfl⟩ ?_
      refine sw_isub 49 dX11_read_48 rfl ?_
      exact sw_iret dX11_read_49 rfl (by
  rw [p24, zI_sub]
  unfold opRead; rw [if_pos c4, if_neg (by rw [c36]; decide)]; exact ⟨I3, rfl⟩)
  · refine sw_iconst (v := zI (-1)) 8 dX11_read_7 rfl (by decide) ?_
    exact sw_iret dX11_read_8 rfl (by
  rw [ifz_eq] at c4
  unfold opRead; rw [if_neg c4]; exact ⟨I, rfl⟩)
theorem a_spelled (K : okS σ) (I : IA h σ) {s i : Int} (s1 : -2147483648 ≤ s) (s2 : s < 2147483648) (i1 : -2147483648 ≤ i) (i2 : i < 2147483648) : sw_ct wA X l (d + 3) mX11_spelled [.ref 0, .int (zI s), .int (zI i)] h (sw_qI wA X fun r h2 => IA h2 σ ∧ r = zI (opSpelled σ s i)) := by
  obtain ⟨k0, hk0⟩ := I.2.2.2.2.2.2.2.2
  have V := IA_B K I
  have hn := V.2.1
  refine sw_ct_of (by decide +kernel) (Nat.le_of_ble_eq_true rfl) rfl ?_
  refine sw_iload_n 1 dX11_spelled_0 rfl rfl rfl ?_
  refine sw_invSI 4 dX11_spelled_1 rfl lk_RX11_124 (c_isShelf s1 s2) rfl rfl (Nat.le_of_ble_eq_true rfl) (fun r1 h1 hq1 => ?_)
  obtain ⟨rfl, rfl⟩ := hq1
  refine sw_if_eq 12 7 dX11_spelled_4 (by decide) rfl (fun c4 => ?_) (fun c4 => ?_)
  · refine sw_iconst (v := zI (-1)) 13 dX11_spelled_12 rfl (by decide) ?_
    exact sw_iret dX11_spelled_13 rfl (by
  rw [ifz_eq] at c4
  unfold opSpelled; rw [if_neg (fun hh => c4 hh.1)]; exact ⟨I, rfl⟩)
  · rw [ifz_eq, Decidable.not_not] at c4
    refine sw_iload_n 8 dX11_spelled_7 rfl rfl rfl ?_
    refine sw_iconst (v := zI (-1)) 9 dX11_spelled_8 rfl (by decide) ?_
    refine sw_icmp_ge 14 12 dX11_spelled_9 (by decide) rfl (fun c9 => ?_) (fun c9 => ?_)
    · rw [zI_le (by omega) (by omega) (by omega) (by omega)] at c9
      obtain ⟨a, rfl⟩ := Int.eq_ofNat_of_zero_le c4.1
      have ha : a < 4 := by omega
      have hin1 := zI_inN (a := a) (n := 4) ha (by decide)
      have hrf1 := rf_now ha
      have hU1 := (isU_now ha).1
      have hV := IA_U K I ha
      have hL := spS_len K a
      refine sw_aload_n 15 dX11_spelled_14 rfl rfl rfl ?_
      refine sw_getR (b := 1) 18 dX11_spelled_15 rfl gf_RX11_12 (fun _ _ _ _ => rfl) ⟨by decide, rfl⟩ rfl ?_
      refine sw_getR (b := 5) 21 dX11_spelled_18 rfl gf_RX11_127 (fun _ _ _ _ => rfl) ⟨by decide, rfl⟩ rfl ?_
      refine sw_iload_n 22 dX11_spelled_21 rfl rfl rfl ?_
      refine sw_aald (b := (8 + 2 * a)) (t := 0) 23 dX11_spelled_22 rfl ⟨by decide, rfl⟩ (by decide) (by assumption) (by first | assumption | rfl) ?_
      refine sw_aload_n 24 dX11_spelled_23 rfl rfl rfl ?_
      refine sw_getR (b := 1) 27 dX11_spelled_24 rfl gf_RX11_12 (fun _ _ _ _ => rfl) ⟨by decide, rfl⟩ rfl ?_
      refine sw_getR (b := 2) 30 dX11_spelled_27 rfl gf_RX11_86 (fun _ _ _ _ => rfl) ⟨by decide, rfl⟩ rfl ?_
      refine sw_aload_n 31 dX11_spelled_30 rfl rfl rfl ?_
      refine sw_getR (b := 65) 34 dX11_spelled_31 rfl gf_RX11_65 (fun _ _ _ _ => rfl) ⟨by decide, rfl⟩ rfl ?_
      refine sw_invVV 37 dX11_spelled_34 rfl lk_RX11_292 (c_U_spell (e := σ.1.2.1.2 a) (sg := σ.1.2.1.1 a) (isU_now ha) isB_now isY_spell V (fun i hi => ⟨(hV.2.2 i (by omega)).1, by have := (hV.2.2 i (by omega)).2; omega⟩) hV.1 hV.2.1 (by decide) hk0 (by omega) (by omega) (by omega) (by omega) (by omega) (by omega) (by omega) (by omega)) (by first | assumption | exact ⟨by decide, rfl⟩) rfl rfl (Nat.le_of_ble_eq_true rfl) (fun h34 hq34 => ?_)
      have e34 := hq34
      have z34 : h34.1 65 1 = zI (spS σ a).length := by rw [e34]; exact yH_size isY_spell
      have w34 : h34.1 66 = appR (h1.1 66) 0 (spS σ a) := by rw [e34]; exact yH_row isY_spell
      have I2 : IA h34 σ := by
        obtain ⟨i1, i2, i3, i4, i5, i6, i7⟩ := I
        have A : ∀ a, a ≠ 65 → a ≠ 66 → h34.1 a = h1.1 a := fun a h1 h2 => by rw [e34]; exact yH_other h1 h2
        have B : h34.2 = h1.2 := by rw [e34]; rfl
        exact ⟨dkA_ag i1 (fun a h1 h2 => A a (by omega) (by omega)), iaM_ag i2 (by rw [A 0 (by omega) (by omega)]) (fun a h1 h2 => A a (by omega) (by omega)), iaK_ag i3 (by rw [A 0 (by omega) (by omega)]) (fun a h1 h2 => ⟨A a (by omega) (by omega), by rw [B]⟩), iaL_ag i4 (by rw [A 0 (by omega) (by omega)]) (by rw [A 0 (by omega) (by omega)]), iaT_ag i5 (fun a h1 h2 => A a (by omega) (by omega)), iaS_ag i6 (fun a h1 h2 => ⟨A a (by omega) (by omega), by rw [B]⟩), ⟨fun s hs => by rw [A _ (by omega) (by omega)]; exact i7.1 s hs, by rw [A _ (by omega) (by omega)]; exact i7.2.1, ⟨_, z34⟩⟩⟩
      clear e34 hq34
      refine sw_iload_n 38 dX11_spelled_37 rfl rfl rfl ?_
      refine sw_iconst (v := zI (-1)) 39 dX11_spelled_38 rfl (by decide) ?_
      refine sw_icmp_ne 50 42 dX11_spelled_39 (by decide) rfl (fun c39 => ?_) (fun c39 => ?_)
      · rw [zI_eq (by omega) (by omega) (by omega) (by omega)] at c39
        refine sw_iload_n 51 dX11_spelled_50 rfl rfl rfl ?_
        refine sw_aload_n 52 dX11_spelled_51 rfl rfl rfl ?_
        refine sw_getR (b := 65) 55 dX11_spelled_52 rfl gf_RX11_65 (fun _ _ _ _ => rfl) ⟨by decide, rfl⟩ rfl ?_
        refine sw_getI 58 dX11_spelled_55 rfl gf_RX11_274 rfl ⟨by decide, rfl⟩ ?_
        rw [z34]
        refine sw_icmp_ge 72 61 dX11_spelled_58 (by decide) rfl (fun c58 => ?_) (fun c58 => ?_)
        · rw [zI_le (by omega) (by omega) (by omega) (by omega)] at c58
          refine sw_iconst (v := zI (-1)) 73 dX11_spelled_72 rfl (by decide) ?_
          exact sw_iret dX11_spelled_73 rfl (by
  unfold opSpelled; rw [if_pos ⟨c4, c9⟩, if_neg c39]; simp only [Int.toNat_natCast]; rw [if_neg (by omega)]; exact ⟨I2, rfl⟩)
        · rw [zI_le (by omega) (by omega) (by omega) (by omega)] at c58
          refine sw_aload_n 62 dX11_spelled_61 rfl rfl rfl ?_
          refine sw_getR (b := 65) 65 dX11_spelled_62 rfl gf_RX11_65 (fun _ _ _ _ => rfl) ⟨by decide, rfl⟩ rfl ?_
          refine sw_iload_n 66 dX11_spelled_65 rfl rfl rfl ?_
          refine sw_invVI 69 dX11_spelled_66 rfl lk_RX11_296 (c_Y_at2 isY_spell z34 (by omega) i1 i2) ⟨by decide, rfl⟩ rfl rfl (Nat.le_of_ble_eq_true rfl) (fun r66 h66 hq66 => ?_)
          obtain ⟨rfl, rfl⟩ := hq66
          refine sw_goto 73 dX11_spelled_69 (by decide) ?_
          exact sw_iret dX11_spelled_73 rfl (by
  rw [if_pos (show 0 ≤ i ∧ i < ((spS σ a).length : Int) by omega), w34]
  unfold opSpelled; rw [if_pos ⟨c4, c9⟩, if_neg c39]; simp only [Int.toNat_natCast]; rw [if_pos (by omega)]
  refine ⟨I2, ?_⟩
  unfold appR; rw [if_pos (by omega)]; rfl)
      · rw [zI_eq (by omega) (by omega) (by omega) (by omega)] at c39
        refine sw_aload_n 43 dX11_spelled_42 rfl rfl rfl ?_
        refine sw_getR (b := 65) 46 dX11_spelled_43 rfl gf_RX11_65 (fun _ _ _ _ => rfl) ⟨by decide, rfl⟩ rfl ?_
        refine sw_getI 49 dX11_spelled_46 rfl gf_RX11_274 rfl ⟨by decide, rfl⟩ ?_
        exact sw_iret dX11_spelled_49 rfl (by
  unfold opSpelled; rw [if_pos ⟨c4, c9⟩, if_pos c39]; exact ⟨I2, z34⟩)
    · refine sw_iconst (v := zI (-1)) 13 dX11_spelled_12 rfl (by decide) ?_
      exact sw_iret dX11_spelled_13 rfl (by
  rw [zI_le (by omega) (by omega) (by omega) (by omega)] at c9
  unfold opSpelled; rw [if_neg (by omega)]; exact ⟨I, rfl⟩)
theorem a_list (K : okS σ) (I : IA h σ) {j n : Int} (s1 : -2147483648 ≤ j) (s2 : j < 2147483648) (i1 : -2147483648 ≤ n) (i2 : n < 2147483648) : sw_ct wA X l (d + 2) mX11_list [.ref 0, .int (zI j), .int (zI n)] h (sw_qI wA X fun r h2 => IA h2 (opList σ j n).2 ∧ r = zI (opList σ j n).1) := by
  refine sw_ct_of (by decide +kernel) (Nat.le_of_ble_eq_true rfl) rfl ?_
  refine sw_iload_n 1 dX11_list_0 rfl rfl rfl ?_
  refine sw_invSI 4 dX11_list_1 rfl lk_RX11_299 (c_isList s1 s2) rfl rfl (Nat.le_of_ble_eq_true rfl) (fun r1 h1 hq1 => ?_)
  obtain ⟨rfl, rfl⟩ := hq1
  refine sw_if_ne 9 7 dX11_list_4 (by decide) rfl (fun c4 => ?_) (fun c4 => ?_)
  · rw [ifz_eq, Decidable.not_not] at c4
    obtain ⟨a, rfl⟩ := Int.eq_ofNat_of_zero_le c4.1
    have ha : a < 3 := by omega
    refine sw_iload_n 10 dX11_list_9 rfl rfl rfl ?_
    refine sw_bipush (v := zI 20) 12 dX11_list_10 rfl (by decide) ?_
    refine sw_icmp_le 18 15 dX11_list_12 (by decide) rfl (fun c12 => ?_) (fun c12 => ?_)
    · rw [zI_le (by omega) (by omega) (by omega) (by omega)] at c12
      refine sw_iload_n 19 dX11_list_18 rfl rfl rfl ?_
      refine sw_iconst (v := zI (-1)) 20 dX11_list_19 rfl (by decide) ?_
      refine sw_icmp_ge 26 23 dX11_list_20 (by decide) rfl (fun c20 => ?_) (fun c20 => ?_)
      · rw [zI_le (by omega) (by omega) (by omega) (by omega)] at c20
        refine sw_aload_n 27 dX11_list_26 rfl rfl rfl ?_
        refine sw_getR (b := 70) 30 dX11_list_27 rfl gf_RX11_78 (fun _ _ _ _ => rfl) ⟨by decide, rfl⟩ rfl ?_
        refine sw_iload_n 31 dX11_list_30 rfl rfl rfl ?_
        refine sw_iload_n 32 dX11_list_31 rfl rfl rfl ?_
        refine sw_invVV 35 dX11_list_32 rfl lk_RX11_302 (c_T_start ha n) ⟨by decide, rfl⟩ rfl rfl (Nat.le_of_ble_eq_true rfl) (fun h32 hq32 => ?_)
        subst hq32
        refine sw_iconst (v := zI 1) 36 dX11_list_35 rfl (by decide) ?_
        exact sw_iret dX11_list_36 rfl (by
  unfold opList; rw [if_pos c4, if_neg (by omega), if_neg (by omega)]
  exact ⟨IA_ls I ha (fun i hi => by rw [if_pos (by omega)]), rfl⟩)
      · rw [zI_le (by omega) (by omega) (by omega) (by omega)] at c20
        refine sw_bipush (v := zI (-14)) 25 dX11_list_23 rfl (by decide) ?_
        exact sw_iret dX11_list_25 rfl (by unfold opList; rw [if_pos c4, if_neg (by omega), if_pos (by omega)]; exact ⟨I, rfl⟩)
    · rw [zI_le (by omega) (by omega) (by omega) (by omega)] at c12
      refine sw_bipush (v := zI (-2)) 17 dX11_list_15 rfl (by decide) ?_
      exact sw_iret dX11_list_17 rfl (by unfold opList; rw [if_pos c4, if_pos (by omega)]; exact ⟨I, rfl⟩)
  · refine sw_iconst (v := zI (-1)) 8 dX11_list_7 rfl (by decide) ?_
    exact sw_iret dX11_list_8 rfl (by
  rw [ifz_eq] at c4
  unfold opList; rw [if_neg c4]; exact ⟨I, rfl⟩)
theorem a_lay (K : okS σ) (I : IA h σ) {j i : Int} {v : Int64} (s1 : -2147483648 ≤ j) (s2 : j < 2147483648) (i1 : -2147483648 ≤ i) (i2 : i < 2147483648) : sw_ct wA X l (d + 1) mX11_lay [.ref 0, .int (zI j), .int (zI i), .long v] h (sw_qI wA X fun r h2 => IA h2 (opLay σ j i v).2 ∧ r = zI (opLay σ j i v).1) := by
  refine sw_ct_of (by decide +kernel) (Nat.le_of_ble_eq_true rfl) rfl ?_
  refine sw_iload_n 1 dX11_lay_0 rfl rfl rfl ?_
  refine sw_invSI 4 dX11_lay_1 rfl lk_RX11_299 (c_isList s1 s2) rfl rfl (Nat.le_of_ble_eq_true rfl) (fun r1 h1 hq1 => ?_)
  obtain ⟨rfl, rfl⟩ := hq1
  refine sw_if_ne 9 7 dX11_lay_4 (by decide) rfl (fun c4 => ?_) (fun c4 => ?_)
  · rw [ifz_eq, Decidable.not_not] at c4
    obtain ⟨a, rfl⟩ := Int.eq_ofNat_of_zero_le c4.1
    have ha : a < 3 := by omega
    have hz := I.2.2.2.2.2.1 a ha
    have kz := K.2.2.2 a ha
    have hin1 := zI_inN (a := a) (n := 3) ha (by decide)
    have hrf := rf_list ha
    have hsh := sh_list ha
    refine sw_aload_n 10 dX11_lay_9 rfl rfl rfl ?_
    refine sw_getR (b := 70) 13 dX11_lay_10 rfl gf_RX11_78 (fun _ _ _ _ => rfl) ⟨by decide, rfl⟩ rfl ?_
    refine sw_iload_n 14 dX11_lay_13 rfl rfl rfl ?_
    refine sw_invVI 17 dX11_lay_14 rfl lk_RX11_306 (c_T_isMissing ha hz.1 kz.1 kz.2) ⟨by decide, rfl⟩ rfl rfl (Nat.le_of_ble_eq_true rfl) (fun r14 h14 hq14 => ?_)
    obtain ⟨rfl, rfl⟩ := hq14
    refine sw_if_eq 23 20 dX11_lay_17 (by decide) rfl (fun c17 => ?_) (fun c17 => ?_)
    · rw [ifz_eq] at c17
      refine sw_aload_n 24 dX11_lay_23 rfl rfl rfl ?_
      refine sw_getR (b := 70) 27 dX11_lay_24 rfl gf_RX11_78 (fun _ _ _ _ => rfl) ⟨by decide, rfl⟩ rfl ?_
      refine sw_iload_n 28 dX11_lay_27 rfl rfl rfl ?_
      refine sw_iload_n 29 dX11_lay_28 rfl rfl rfl ?_
      refine sw_invVI 32 dX11_lay_29 rfl lk_RX11_309 (c_T_has ha hz.1 kz.1 kz.2 i1 i2) ⟨by decide, rfl⟩ rfl rfl (Nat.le_of_ble_eq_true rfl) (fun r29 h29 hq29 => ?_)
      obtain ⟨rfl, rfl⟩ := hq29
      refine sw_if_ne 38 35 dX11_lay_32 (by decide) rfl (fun c32 => ?_) (fun c32 => ?_)
      · rw [ifz_eq, Decidable.not_not] at c32
        obtain ⟨m, rfl⟩ := Int.eq_ofNat_of_zero_le c32.1
        have hin2 := zI_inN (a := m) (n := 20) (by omega) (by decide)
        refine sw_aload_n 39 dX11_lay_38 rfl rfl rfl ?_
        refine sw_getR (b := 70) 42 dX11_lay_39 rfl gf_RX11_78 (fun _ _ _ _ => rfl) ⟨by decide, rfl⟩ rfl ?_
        refine sw_getR (b := 71) 45 dX11_lay_42 rfl gf_RX11_312 (fun _ _ _ _ => rfl) ⟨by decide, rfl⟩ rfl ?_
        refine sw_iload_n 46 dX11_lay_45 rfl rfl rfl ?_
        refine sw_aald (b := (72 + a)) (t := 3) 47 dX11_lay_46 rfl ⟨by decide, rfl⟩ (by decide) (by assumption) (by first | assumption | rfl) ?_
        refine sw_iload_n 48 dX11_lay_47 rfl rfl rfl ?_
        refine sw_lload_n 49 dX11_lay_48 rfl rfl rfl ?_
        refine sw_last 50 dX11_lay_49 rfl (by first | assumption | exact ⟨by decide, rfl⟩) (by assumption) ?_
        refine sw_iconst (v := zI 1) 51 dX11_lay_50 rfl (by decide) ?_
        exact sw_iret dX11_lay_51 rfl (by
  unfold opLay; rw [if_pos c4]; simp only [Int.toNat_natCast]; rw [if_neg c17, if_pos c32, zI_clampN (by omega)]
  exact ⟨IA_lay I ha c32.2, rfl⟩)
      · rw [ifz_eq] at c32
        refine sw_bipush (v := zI (-13)) 37 dX11_lay_35 rfl (by decide) ?_
        exact sw_iret dX11_lay_37 rfl (by unfold opLay; rw [if_pos c4]; simp only [Int.toNat_natCast]; rw [if_neg c17, if_neg c32]; exact ⟨I, rfl⟩)
    · rw [ifz_eq, Decidable.not_not] at c17
      refine sw_bipush (v := zI (-11)) 22 dX11_lay_20 rfl (by decide) ?_
      exact sw_iret dX11_lay_22 rfl (by unfold opLay; rw [if_pos c4]; simp only [Int.toNat_natCast]; rw [if_pos c17]; exact ⟨I, rfl⟩)
  · refine sw_iconst (v := zI (-1)) 8 dX11_lay_7 rfl (by decide) ?_
    exact sw_iret dX11_lay_8 rfl (by
  rw [ifz_eq] at c4
  unfold opLay; rw [if_neg c4]; exact ⟨I, rfl⟩)
theorem a_get (K : okS σ) (I : IA h σ) {j i : Int} (s1 : -2147483648 ≤ j) (s2 : j < 2147483648) (i1 : -2147483648 ≤ i) (i2 : i < 2147483648) : sw_ct wA X l (d + 1) mX11_get [.ref 0, .int (zI j), .int (zI i)] h (sw_qL wA X fun r h2 => IA h2 σ ∧ r = opGet σ j i) := by
  refine sw_ct_of (by decide +kernel) (Nat.le_of_ble_eq_true rfl) rfl ?_
  refine sw_iload_n 1 dX11_get_0 rfl rfl rfl ?_
  refine sw_invSI 4 dX11_get_1 rfl lk_RX11_299 (c_isList s1 s2) rfl rfl (Nat.le_of_ble_eq_true rfl) (fun r1 h1 hq1 => ?_)
  obtain ⟨rfl, rfl⟩ := hq1
  refine sw_if_eq 33 7 dX11_get_4 (by decide) rfl (fun c4 => ?_) (fun c4 => ?_)
  · refine sw_ldc2 36 dX11_get_33 rfl (show Cond.constantLong RX11 140 (zL (-9223372036854775808)) ∈ sw_big from kk_RX11_140) ?_
    exact sw_lret dX11_get_36 rfl (by
  rw [ifz_eq] at c4
  unfold opGet; rw [if_neg (fun hh => c4 hh.1)]; exact ⟨I, rfl⟩)
  · rw [ifz_eq, Decidable.not_not] at c4
    obtain ⟨a, rfl⟩ := Int.eq_ofNat_of_zero_le c4.1
    have ha : a < 3 := by omega
    have hz := I.2.2.2.2.2.1 a ha
    have kz := K.2.2.2 a ha
    have hin1 := zI_inN (a := a) (n := 3) ha (by decide)
    have hrf := rf_list ha
    have hsh := sh_list ha
    refine sw_aload_n 8 dX11_get_7 rfl rfl rfl ?_
    refine sw_getR (b := 70) 11 dX11_get_8 rfl gf_RX11_78 (fun _ _ _ _ => rfl) ⟨by decide, rfl⟩ rfl ?_
    refine sw_iload_n 12 dX11_get_11 rfl rfl rfl ?_
    refine sw_iload_n 13 dX11_get_12 rfl rfl rfl ?_
    refine sw_invVI 16 dX11_get_13 rfl lk_RX11_309 (c_T_has ha hz.1 kz.1 kz.2 i1 i2) ⟨by decide, rfl⟩ rfl rfl (Nat.le_of_ble_eq_true rfl) (fun r13 h13 hq13 => ?_)
    obtain ⟨rfl, rfl⟩ := hq13
    refine sw_if_eq 33 19 dX11_get_16 (by decide) rfl (fun c16 => ?_) (fun c16 => ?_)
    · refine sw_ldc2 36 dX11_get_33 rfl (show Cond.constantLong RX11 140 (zL (-9223372036854775808)) ∈ sw_big from kk_RX11_140) ?_
      exact sw_lret dX11_get_36 rfl (by
  rw [ifz_eq] at c16
  unfold opGet; simp only [Int.toNat_natCast]; rw [if_neg (fun hh => c16 hh.2)]; exact ⟨I, rfl⟩)
    · rw [ifz_eq, Decidable.not_not] at c16
      obtain ⟨m, rfl⟩ := Int.eq_ofNat_of_zero_le c16.1
      have hin2 := zI_inN (a := m) (n := 20) (by omega) (by decide)
      refine sw_aload_n 20 dX11_get_19 rfl rfl rfl ?_
      refine sw_getR (b := 70) 23 dX11_get_20 rfl gf_RX11_78 (fun _ _ _ _ => rfl) ⟨by decide, rfl⟩ rfl ?_
      refine sw_getR (b := 71) 26 dX11_get_23 rfl gf_RX11_312 (fun _ _ _ _ => rfl) ⟨by decide, rfl⟩ rfl ?_
      refine sw_iload_n 27 dX11_get_26 rfl rfl rfl ?_
      refine sw_aald (b := (72 + a)) (t := 3) 28 dX11_get_27 rfl ⟨by decide, rfl⟩ (by decide) (by assumption) (by first | assumption | rfl) ?_
      refine sw_iload_n 29 dX11_get_28 rfl rfl rfl ?_
      refine sw_lald 30 dX11_get_29 rfl (by first | assumption | exact ⟨by decide, rfl⟩) (by assumption) ?_
      refine sw_goto 36 dX11_get_30 (by decide) ?_
      exact sw_lret dX11_get_36 rfl (by
  unfold opGet; simp only [Int.toNat_natCast]; rw [if_pos ⟨c4, c16⟩, zI_clampN (by omega)]
  exact ⟨I, hz.2 m (by omega)⟩)
theorem a_image (K : okS σ) (I : IA h σ) : sw_ct wA X l (d + 3) mX11_image [.ref 0] h (sw_qI wA X fun r h2 => IA h2 (opImage σ).2 ∧ r = zI (opImage σ).1) := by
  obtain ⟨w1, w2, w3, w4, w5⟩ := I.1
  have kn := K.1.1.1
  have kk := K.1.2.2.1
  refine sw_ct_of (by decide +kernel) (Nat.le_of_ble_eq_true rfl) rfl ?_
  refine sw_aload_n 1 dX11_image_0 rfl rfl rfl ?_
  refine sw_getR (b := 16) 4 dX11_image_1 rfl gf_RX11_18 (fun _ _ _ _ => rfl) ⟨by decide, rfl⟩ rfl ?_
  refine sw_aload_n 5 dX11_image_4 rfl rfl rfl ?_
  refine sw_getR (b := 1) 8 dX11_image_5 rfl gf_RX11_12 (fun _ _ _ _ => rfl) ⟨by decide, rfl⟩ rfl ?_
  refine sw_invVV 11 dX11_image_8 rfl lk_RX11_324 (c_D_copy_image) ⟨by decide, rfl⟩ rfl rfl (Nat.le_of_ble_eq_true rfl) (fun h8 hq8 => ?_)
  obtain ⟨q1, q2, q3, q4, q5, q6⟩ := hq8
  refine sw_aload_n 12 dX11_image_11 rfl rfl rfl ?_
  refine sw_iconst (v := zI 1) 13 dX11_image_12 rfl (by decide) ?_
  refine sw_putZ 16 (by first | exact Or.inl rfl | exact Or.inr rfl | assumption) dX11_image_13 rfl pf_RX11_327 rfl ⟨by decide, rfl⟩ ?_
  refine sw_aload_n 17 dX11_image_16 rfl rfl rfl ?_
  refine sw_getR (b := 1) 20 dX11_image_17 rfl gf_RX11_12 (fun _ _ _ _ => rfl) ⟨by decide, rfl⟩ rfl ?_
  refine sw_getR (b := 2) 23 dX11_image_20 rfl gf_RX11_86 (fun _ _ _ _ => rfl) ⟨by decide, rfl⟩ rfl ?_
  refine sw_getI 26 dX11_image_23 rfl gf_RX11_96 rfl ⟨by decide, rfl⟩ ?_
  exact sw_iret dX11_image_26 rfl (by
  obtain ⟨i1, i2, i3, i4, i5, i6, i7⟩ := I
  have A : ∀ a, 0 < a → a < 16 ∨ 31 ≤ a → (sw_wI h8 0 11 (zI 1)).1 a = h.1 a := fun a h1 h2 => by rw [sw_wI_ne (by omega), q5 a h2]
  have C : ∀ a, 0 < a → (sw_wI h8 0 11 (zI 1)).1 a = h8.1 a := fun a h1 => sw_wI_ne (by omega)
  have B : (sw_wI h8 0 11 (zI 1)).2 = h.2 := q6
  have Z : ∀ k, k ≠ 11 → (sw_wI h8 0 11 (zI 1)).1 0 k = h.1 0 k := fun k hk => by rw [sw_wI_at]; simp only [va_up, if_neg hk]; rw [q5 0 (by omega)]
  refine ⟨⟨dkA_ag i1 (fun a h1 h2 => A a (by omega) (by omega)), Or.inr ⟨σ.1, rfl, by rw [sw_wI_at]; simp [va_up], ⟨?_, ?_, ?_, ?_, ?_⟩⟩, iaK_ag i3 (Z 12 (by decide)) (fun a h1 h2 => ⟨A a (by omega) (by omega), by rw [B]⟩), iaL_ag i4 (Z 13 (by decide)) (Z 14 (by decide)), iaT_ag i5 (fun a h1 h2 => A a (by omega) (by omega)), iaS_ag i6 (fun a h1 h2 => ⟨A a (by omega) (by omega), by rw [B]⟩), iaF_ag i7 (fun a h1 => A a (by omega) (by omega))⟩, ?_⟩
  · rw [C _ (by decide)]; exact q2.trans w1
  · intro i hi
    rw [C _ (by decide), C _ (by decide)]
    have e := q1 i (by omega)
    exact ⟨e.1.trans (w2 i hi).1, e.2.1.trans (w2 i hi).2⟩
  · intro s hs
    rw [C _ (by omega), C _ (by omega), show 16 + 7 + 2 * s = 23 + 2 * s by omega, show 16 + 8 + 2 * s = 24 + 2 * s by omega]
    have e := q4 s hs
    have f := w3 s hs
    rw [show 1 + 7 + 2 * s = 8 + 2 * s by omega, show 1 + 8 + 2 * s = 9 + 2 * s by omega] at f
    exact ⟨e.1.trans f.1, fun i hi => (e.2 i hi).trans (f.2 i hi)⟩
  · rw [C _ (by decide)]; exact q3.trans w4
  · intro i hi
    rw [C _ (by decide)]
    have e := q1 i (by omega)
    exact e.2.2.trans (w5 i hi)
  · rw [A 2 (by decide) (by decide)]; exact w1)
theorem a_undo (K : okS σ) (I : IA h σ) : sw_ct wA X l (d + 3) mX11_undo [.ref 0] h (sw_qI wA X fun r h2 => IA h2 (opUndo σ).2 ∧ r = zI (opUndo σ).1) := by
  refine sw_ct_of (by decide +kernel) (Nat.le_of_ble_eq_true rfl) rfl ?_
  refine sw_aload_n 1 dX11_undo_0 rfl rfl rfl ?_
  refine sw_getZ 4 dX11_undo_1 rfl gf_RX11_327 rfl ⟨by decide, rfl⟩ ?_
  refine sw_if_ne 10 7 dX11_undo_4 (by decide) rfl (fun c4 => ?_) (fun c4 => ?_)
  · refine sw_aload_n 11 dX11_undo_10 rfl rfl rfl ?_
    refine sw_getR (b := 1) 14 dX11_undo_11 rfl gf_RX11_12 (fun _ _ _ _ => rfl) ⟨by decide, rfl⟩ rfl ?_
    refine sw_aload_n 15 dX11_undo_14 rfl rfl rfl ?_
    refine sw_getR (b := 16) 18 dX11_undo_15 rfl gf_RX11_18 (fun _ _ _ _ => rfl) ⟨by decide, rfl⟩ rfl ?_
    refine sw_invVV 21 dX11_undo_18 rfl lk_RX11_324 (c_D_copy_undo) ⟨by decide, rfl⟩ rfl rfl (Nat.le_of_ble_eq_true rfl) (fun h18 hq18 => ?_)
    obtain ⟨q1, q2, q3, q4, q5, q6⟩ := hq18
    refine sw_aload_n 22 dX11_undo_21 rfl rfl rfl ?_
    refine sw_invVV 25 dX11_undo_22 rfl lk_RX11_107 (c_primesChanged) ⟨by decide, rfl⟩ rfl rfl (Nat.le_of_ble_eq_true rfl) (fun h22 hq22 => ?_)
    subst hq22
    refine sw_aload_n 26 dX11_undo_25 rfl rfl rfl ?_
    refine sw_getR (b := 1) 29 dX11_undo_26 rfl gf_RX11_12 (fun _ _ _ _ => rfl) ⟨by decide, rfl⟩ rfl ?_
    refine sw_getR (b := 2) 32 dX11_undo_29 rfl gf_RX11_86 (fun _ _ _ _ => rfl) ⟨by decide, rfl⟩ rfl ?_
    refine sw_getI 35 dX11_undo_32 rfl gf_RX11_96 rfl ⟨by decide, rfl⟩ ?_
    exact sw_iret dX11_undo_35 rfl (by
  rcases I.2.1 with ⟨z1, z2⟩ | ⟨E, z1, z2, z3⟩
  · rw [z2] at c4; exact absurd rfl c4
  · obtain ⟨w1, w2, w3, w4, w5⟩ := z3
    have kE := K.2.1 E z1
    have kn := kE.1.1
    have kk := kE.2.2.1
    obtain ⟨p1, p2, p3⟩ := pc_at (h := h18)
    have pn : ∀ a, 0 < a → (sw_wI (sw_wI h18 0 12 (zI 0)) 0 13 (zI 0)).1 a = h18.1 a := fun a ha => (pc_ne ha).1
    unfold opUndo; rw [z1]
    refine ⟨IA_new I (fun a ha => ⟨by rw [pn a (by omega), q5 a (by omega)], by show h18.2 a = _; rw [q6]⟩) (by rw [p1, q5 0 (by omega)]) ⟨?_, ?_, ?_, ?_, ?_⟩ p2 p3, ?_⟩
    · rw [pn _ (by decide)]; exact q2.trans w1
    · intro i hi
      rw [pn _ (by decide), pn _ (by decide)]
      have e := q1 i (by omega)
      exact ⟨e.1.trans (w2 i hi).1, e.2.1.trans (w2 i hi).2⟩
    · intro s hs
      rw [pn _ (by omega), pn _ (by omega), show 1 + 7 + 2 * s = 8 + 2 * s by omega, show 1 + 8 + 2 * s = 9 + 2 * s by omega]
      have e := q4 s hs
      have f := w3 s hs
      rw [show 16 + 7 + 2 * s = 23 + 2 * s by omega, show 16 + 8 + 2 * s = 24 + 2 * s by omega] at f
      exact ⟨e.1.trans f.1, fun i hi => (e.2 i hi).trans (f.2 i hi)⟩
    · rw [pn _ (by decide)]; exact q3.trans w4
    · intro i hi
      rw [pn _ (by decide)]
      have e := q1 i (by omega)
      exact e.2.2.trans (w5 i hi)
    · rw [pn 2 (by decide)]; exact q2.trans w1)
  · refine sw_bipush (v := zI (-3)) 9 dX11_undo_7 rfl (by decide) ?_
    exact sw_iret dX11_undo_9 rfl (by
  rcases I.2.1 with ⟨z1, z2⟩ | ⟨E, z1, z2, z3⟩
  · unfold opUndo; rw [z1]; exact ⟨I, rfl⟩
  · rw [z2] at c4; exact absurd c4 (by decide))
theorem a_count (K : okS σ) (I : IA h σ) {x : Int} (x1 : -2147483648 ≤ x) (x2 : x < 2147483648) : sw_ct wA X l (d + 5) mX11_count [.ref 0, .int (zI x)] h (sw_qI wA X fun r h2 => IA h2 σ ∧ r = zI (opCount σ x)) := by
  obtain ⟨w1, w2, w3, w4, w5⟩ := I.1
  have t0 := I.2.2.2.2.1.1
  refine sw_ct_of (by decide +kernel) (Nat.le_of_ble_eq_true rfl) rfl ?_
  refine sw_iload_n 1 dX11_count_0 rfl rfl rfl ?_
  refine sw_tab dX11_count_1 (by decide) ?_ ?_
  · intro i9 off9 hi9 he9
    match i9, hi9 with
    | 0, hi9 =>
      obtain rfl : off9 = 35 := (Option.some.inj (show some (35 : Int) = some off9 from hi9)).symm
      refine sw_at_pc (q := 36) (by decide) ?_
      have t1 := he9
      rw [zI_toInt x1 x2] at t1
      refine sw_aload_n 37 dX11_count_36 rfl rfl rfl ?_
      refine sw_getR (b := 1) 40 dX11_count_37 rfl gf_RX11_12 (fun _ _ _ _ => rfl) ⟨by decide, rfl⟩ rfl ?_
      refine sw_getR (b := 2) 43 dX11_count_40 rfl gf_RX11_86 (fun _ _ _ _ => rfl) ⟨by decide, rfl⟩ rfl ?_
      refine sw_getI 46 dX11_count_43 rfl gf_RX11_96 rfl ⟨by decide, rfl⟩ ?_
      exact sw_iret dX11_count_46 rfl (by unfold opCount; rw [if_pos (by omega)]; exact ⟨I, w1⟩)
    | 1, hi9 =>
      obtain rfl : off9 = 46 := (Option.some.inj (show some (46 : Int) = some off9 from hi9)).symm
      refine sw_at_pc (q := 47) (by decide) ?_
      have t1 := he9
      rw [zI_toInt x1 x2] at t1
      refine sw_aload_n 48 dX11_count_47 rfl rfl rfl ?_
      refine sw_getR (b := 1) 51 dX11_count_48 rfl gf_RX11_12 (fun _ _ _ _ => rfl) ⟨by decide, rfl⟩ rfl ?_
      refine sw_getR (b := 6) 54 dX11_count_51 rfl gf_RX11_230 (fun _ _ _ _ => rfl) ⟨by decide, rfl⟩ rfl ?_
      refine sw_getI 57 dX11_count_54 rfl gf_RX11_243 rfl ⟨by decide, rfl⟩ ?_
      exact sw_iret dX11_count_57 rfl (by unfold opCount; rw [if_neg (by omega), if_pos (by omega)]; exact ⟨I, w4⟩)
    | 2, hi9 =>
      obtain rfl : off9 = 57 := (Option.some.inj (show some (57 : Int) = some off9 from hi9)).symm
      refine sw_at_pc (q := 58) (by decide) ?_
      have t1 := he9
      rw [zI_toInt x1 x2] at t1
      refine sw_aload_n 59 dX11_count_58 rfl rfl rfl ?_
      refine sw_getR (b := 63) 62 dX11_count_59 rfl gf_RX11_61 (fun _ _ _ _ => rfl) ⟨by decide, rfl⟩ rfl ?_
      refine sw_getI 65 dX11_count_62 rfl gf_RX11_274 rfl ⟨by decide, rfl⟩ ?_
      exact sw_iret dX11_count_65 rfl (by unfold opCount; rw [if_neg (by omega), if_neg (by omega), if_pos (by omega)]; exact ⟨I, t0⟩)
    | 3, hi9 =>
      obtain rfl : off9 = 65 := (Option.some.inj (show some (65 : Int) = some off9 from hi9)).symm
      refine sw_at_pc (q := 66) (by decide) ?_
      have t1 := he9
      rw [zI_toInt x1 x2] at t1
      refine sw_aload_n 67 dX11_count_66 rfl rfl rfl ?_
      refine sw_getR (b := 70) 70 dX11_count_67 rfl gf_RX11_78 (fun _ _ _ _ => rfl) ⟨by decide, rfl⟩ rfl ?_
      refine sw_invVI 73 dX11_count_70 rfl lk_RX11_330 (c_T_howManyThere (sz := σ.2.2.2.1) (fun j hj => ⟨(I.2.2.2.2.2.1 j hj).1, (K.2.2.2 j hj).1, (K.2.2.2 j hj).2⟩)) ⟨by decide, rfl⟩ rfl rfl (Nat.le_of_ble_eq_true rfl) (fun r70 h70 hq70 => ?_)
      obtain ⟨rfl, rfl⟩ := hq70
      exact sw_iret dX11_count_73 rfl (by unfold opCount; rw [if_neg (by omega), if_neg (by omega), if_neg (by omega), if_pos (by omega)]; exact ⟨I, rfl⟩)
    | 4, hi9 =>
      obtain rfl : off9 = 73 := (Option.some.inj (show some (73 : Int) = some off9 from hi9)).symm
      refine sw_at_pc (q := 74) (by decide) ?_
      have t1 := he9
      rw [zI_toInt x1 x2] at t1
      refine sw_aload_n 75 dX11_count_74 rfl rfl rfl ?_
      refine sw_invVI 78 dX11_count_75 rfl lk_RX11_333 (a_howManyPairs K I) ⟨by decide, rfl⟩ rfl rfl (Nat.le_of_ble_eq_true rfl) (fun r75 h75 hq75 => ?_)
      obtain ⟨I4, rfl⟩ := hq75
      exact sw_iret dX11_count_78 rfl (by unfold opCount; rw [if_neg (by omega), if_neg (by omega), if_neg (by omega), if_neg (by omega), if_pos (by omega)]; exact ⟨I4, rfl⟩)
    | k9 + 5, hi9 => exact absurd hi9 (by simp)
  · intro ho9
    refine sw_at_pc (q := 79) (by decide) ?_
    have t1 := ho9
    rw [zI_toInt x1 x2] at t1
    refine sw_iconst (v := zI (-1)) 80 dX11_count_79 rfl (by decide) ?_
    exact sw_iret dX11_count_80 rfl (by unfold opCount; rw [if_neg (by omega), if_neg (by omega), if_neg (by omega), if_neg (by omega), if_neg (by omega)]; exact ⟨I, rfl⟩)
end sw_ops6
