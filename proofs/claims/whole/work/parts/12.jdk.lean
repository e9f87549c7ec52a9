/-! HEAPS BY ROWS, AND THE JDK's METHODS -/
def sw_pI (h : sw_H) (a : Nat) (f : Nat → Int32) : sw_H := (va_up h.1 a f, h.2)
def sw_pL (h : sw_H) (a : Nat) (f : Nat → Int64) : sw_H := (h.1, va_up h.2 a f)
theorem sw_pI_at {h : sw_H} {a : Nat} {f : Nat → Int32} : (sw_pI h a f).1 a = f := by simp [sw_pI, va_up]
theorem sw_pL_at {h : sw_H} {a : Nat} {f : Nat → Int64} : (sw_pL h a f).2 a = f := by simp [sw_pL, va_up]
theorem sw_pI_ne {h : sw_H} {a b : Nat} {f : Nat → Int32} (hb : b ≠ a) : (sw_pI h a f).1 b = h.1 b := by simp [sw_pI, va_up, hb]
theorem sw_pL_ne {h : sw_H} {a b : Nat} {f : Nat → Int64} (hb : b ≠ a) : (sw_pL h a f).2 b = h.2 b := by simp [sw_pL, va_up, hb]
theorem sw_pI_2 {h : sw_H} {a : Nat} {f : Nat → Int32} : (sw_pI h a f).2 = h.2 := rfl
theorem sw_pL_1 {h : sw_H} {a : Nat} {f : Nat → Int64} : (sw_pL h a f).1 = h.1 := rfl
theorem sw_pI_pI {h : sw_H} {a : Nat} {f g : Nat → Int32} : sw_pI (sw_pI h a f) a g = sw_pI h a g := by
  simp only [sw_pI]; congr 1; funext b; by_cases e : b = a <;> simp [va_up, e]
theorem sw_pL_pL {h : sw_H} {a : Nat} {f g : Nat → Int64} : sw_pL (sw_pL h a f) a g = sw_pL h a g := by
  simp only [sw_pL]; congr 1; funext b; by_cases e : b = a <;> simp [va_up, e]
theorem sw_pI_self {h : sw_H} {a : Nat} {f : Nat → Int32} (e : f = h.1 a) : sw_pI h a f = h := by
  subst e; cases h with | mk i j => simp only [sw_pI]; congr 1; funext b; by_cases e : b = a <;> simp [va_up, e]
theorem sw_pL_self {h : sw_H} {a : Nat} {f : Nat → Int64} (e : f = h.2 a) : sw_pL h a f = h := by
  subst e; cases h with | mk i j => simp only [sw_pL]; congr 1; funext b; by_cases e : b = a <;> simp [va_up, e]
theorem sw_wI_p {h : sw_H} {a k : Nat} {x : Int32} : sw_wI h a k x = sw_pI h a (va_up (h.1 a) k x) := rfl
theorem sw_wL_p {h : sw_H} {a k : Nat} {x : Int64} : sw_wL h a k x = sw_pL h a (va_up (h.2 a) k x) := rfl
theorem sw_wI_pI {h : sw_H} {a k : Nat} {x : Int32} {f : Nat → Int32} : sw_wI (sw_pI h a f) a k x = sw_pI h a (va_up f k x) := by rw [sw_wI_p, sw_pI_at, sw_pI_pI]
theorem sw_wL_pL {h : sw_H} {a k : Nat} {x : Int64} {f : Nat → Int64} : sw_wL (sw_pL h a f) a k x = sw_pL h a (va_up f k x) := by rw [sw_wL_p, sw_pL_at, sw_pL_pL]
theorem sw_ct_ofF {w : sw_W} {X : sw_X} {l : Launch} {d : Nat} {y : sw_M} {args : List Value} {h : sw_H} {Qc : sw_Q} {lc : List (Nat × Value)} (hy : plainFor y.1 = true) (hlen : (lg_sl args).length ≤ y.2.2.1) (hlc : lv_args 0 args = lc)
    (k : sw_wp w X l d y Qc 0 lc [] h) : sw_ct w X l d y args h Qc := by
  refine va_MetF (cc := y.2.1) (maxL := y.2.2.1) (ret := y.2.2.2) (ws' := sw_big) hy rfl ?_
  intro p e s m ar below meth c s₁ B hml hv
  obtain ⟨rfl, hP, hK, hi⟩ := hv
  have hl := lv_entry (args.map (sw_cv X.2.2.2)) (n := y.2.2.1) (by rw [sw_sl_len]; exact hlen)
  rw [lg_entry_eq]
  generalize (lg_sl (args.map (sw_cv X.2.2.2)) ++ List.replicate (y.2.2.1 - (lg_sl (args.map (sw_cv X.2.2.2))).length) Slot.unset).toArray = ls at hl ⊢
  rw [sw_args_map, hlc] at hl
  exact k p e s m _ below meth c s₁ B hml hK hi s.heap [] hP va_S.rf ls hl
section sw_jdk
variable {w : sw_W} {X : sw_X} {l : Launch} {d : Nat} {h : sw_H}
theorem c_max (a b : Int32) : sw_ct w X l d mJ9_max_7cf53 [.int a, .int b] h (sw_qI w X fun r h2 => h2 = h ∧ r = if a < b then b else a) := by
  refine sw_ct_ofF (by decide +kernel) (Nat.le_of_ble_eq_true rfl) rfl ?_
  refine sw_iload_n 1 dJ9_max_7cf53_0 rfl rfl rfl ?_
  refine sw_iload_n 2 dJ9_max_7cf53_1 rfl rfl rfl ?_
  refine sw_icmp_lt 9 5 dJ9_max_7cf53_2 (by decide) rfl (fun c2 => ?_) (fun c2 => ?_)
  · refine sw_iload_n 10 dJ9_max_7cf53_9 rfl rfl rfl ?_
    exact sw_iret dJ9_max_7cf53_10 rfl (⟨rfl, by simp [c2]⟩)
  · refine sw_iload_n 6 dJ9_max_7cf53_5 rfl rfl rfl ?_
    refine sw_goto 10 dJ9_max_7cf53_6 (by decide) ?_
    exact sw_iret dJ9_max_7cf53_10 rfl (⟨rfl, by simp [c2]⟩)
theorem c_min (a b : Int32) : sw_ct w X l d mJ9_min_7cf53 [.int a, .int b] h (sw_qI w X fun r h2 => h2 = h ∧ r = if b < a then b else a) := by
  refine sw_ct_ofF (by decide +kernel) (Nat.le_of_ble_eq_true rfl) rfl ?_
  refine sw_iload_n 1 dJ9_min_7cf53_0 rfl rfl rfl ?_
  refine sw_iload_n 2 dJ9_min_7cf53_1 rfl rfl rfl ?_
  refine sw_icmp_gt 9 5 dJ9_min_7cf53_2 (by decide) rfl (fun c2 => ?_) (fun c2 => ?_)
  · refine sw_iload_n 10 dJ9_min_7cf53_9 rfl rfl rfl ?_
    exact sw_iret dJ9_min_7cf53_10 rfl (⟨rfl, by simp [c2]⟩)
  · refine sw_iload_n 6 dJ9_min_7cf53_5 rfl rfl rfl ?_
    refine sw_goto 10 dJ9_min_7cf53_6 (by decide) ?_
    exact sw_iret dJ9_min_7cf53_10 rfl (⟨rfl, by simp [c2]⟩)
theorem c_absI (a : Int32) : sw_ct w X l d mJ9_abs_0f7a4 [.int a] h (sw_qI w X fun r h2 => h2 = h ∧ r = if 0 ≤ a then a else -a) := by
  refine sw_ct_ofF (by decide +kernel) (Nat.le_of_ble_eq_true rfl) rfl ?_
  refine sw_iload_n 1 dJ9_abs_0f7a4_0 rfl rfl rfl ?_
  refine sw_if_ge 9 4 dJ9_abs_0f7a4_1 (by decide) rfl (fun c1 => ?_) (fun c1 => ?_)
  · refine sw_iload_n 10 dJ9_abs_0f7a4_9 rfl rfl rfl ?_
    exact sw_iret dJ9_abs_0f7a4_10 rfl (⟨rfl, by simp [c1]⟩)
  · refine sw_iload_n 5 dJ9_abs_0f7a4_4 rfl rfl rfl ?_
    refine sw_ineg 6 dJ9_abs_0f7a4_5 rfl ?_
    refine sw_goto 10 dJ9_abs_0f7a4_6 (by decide) ?_
    exact sw_iret dJ9_abs_0f7a4_10 rfl (⟨rfl, by simp [c1]⟩)
theorem c_absL (a : Int64) : sw_ct w X l d mJ9_abs_067f4 [.long a] h (sw_qL w X fun r h2 => h2 = h ∧ r = if zL 0 ≤ a then a else -a) := by
  refine sw_ct_ofF (by decide +kernel) (Nat.le_of_ble_eq_true rfl) rfl ?_
  refine sw_lload_n 1 dJ9_abs_067f4_0 rfl rfl rfl ?_
  refine sw_lconst (v := zL 0) 2 dJ9_abs_067f4_1 rfl (by decide) ?_
  refine sw_lcmp 3 dJ9_abs_067f4_2 rfl ?_
  refine sw_if_ge 11 6 dJ9_abs_067f4_3 (by decide) rfl (fun c3 => ?_) (fun c3 => ?_)
  · refine sw_lload_n 12 dJ9_abs_067f4_11 rfl rfl rfl ?_
    exact sw_lret dJ9_abs_067f4_12 rfl (⟨rfl, by rw [lc_ge] at c3; simp [c3]⟩)
  · refine sw_lload_n 7 dJ9_abs_067f4_6 rfl rfl rfl ?_
    refine sw_lneg 8 dJ9_abs_067f4_7 rfl ?_
    refine sw_goto 12 dJ9_abs_067f4_8 (by decide) ?_
    exact sw_lret dJ9_abs_067f4_12 rfl (⟨rfl, by rw [lc_ge] at c3; simp [c3]⟩)
theorem c_floorMod (a b : Int32) (hb : ¬ b = 0) : sw_ct w X l d mJ9_floorMod_7cf53 [.int a, .int b] h (sw_qI w X fun r h2 => h2 = h ∧ r = if 0 ≤ a ^^^ b then a - a / b * b else if a - a / b * b = 0 then a - a / b * b else a - a / b * b + b) := by
  refine sw_ct_ofF (by decide +kernel) (Nat.le_of_ble_eq_true rfl) rfl ?_
  refine sw_iload_n 1 dJ9_floorMod_7cf53_0 rfl rfl rfl ?_
  refine sw_iload_n 2 dJ9_floorMod_7cf53_1 rfl rfl rfl ?_
  refine sw_irem 3 dJ9_floorMod_7cf53_2 rfl (by first | assumption | decide) ?_
  refine sw_istore_n (lc' := [(0, _), (1, _), (2, _)]) 4 dJ9_floorMod_7cf53_3 rfl rfl (by decide) rfl ?_
  refine sw_iload_n 5 dJ9_floorMod_7cf53_4 rfl rfl rfl ?_
  refine sw_iload_n 6 dJ9_floorMod_7cf53_5 rfl rfl rfl ?_
  refine sw_ixor 7 dJ9_floorMod_7cf53_6 rfl ?_
  refine sw_if_ge 18 10 dJ9_floorMod_7cf53_7 (by decide) rfl (fun c7 => ?_) (fun c7 => ?_)
  · refine sw_iload_n 19 dJ9_floorMod_7cf53_18 rfl rfl rfl ?_
    exact sw_iret dJ9_floorMod_7cf53_19 rfl (⟨rfl, by first | rw [if_pos c7] | rw [if_neg c7, if_pos c11]⟩)
  · refine sw_iload_n 11 dJ9_floorMod_7cf53_10 rfl rfl rfl ?_
    refine sw_if_eq 18 14 dJ9_floorMod_7cf53_11 (by decide) rfl (fun c11 => ?_) (fun c11 => ?_)
    · refine sw_iload_n 19 dJ9_floorMod_7cf53_18 rfl rfl rfl ?_
      exact sw_iret dJ9_floorMod_7cf53_19 rfl (⟨rfl, by first | rw [if_pos c7] | rw [if_neg c7, if_pos c11]⟩)
    · refine sw_iload_n 15 dJ9_floorMod_7cf53_14 rfl rfl rfl ?_
      refine sw_iload_n 16 dJ9_floorMod_7cf53_15 rfl rfl rfl ?_
      refine sw_iadd 17 dJ9_floorMod_7cf53_16 rfl ?_
      exact sw_iret dJ9_floorMod_7cf53_17 rfl (⟨rfl, by rw [if_neg c7, if_neg c11]⟩)
theorem sw_ct_mono {y : sw_M} {args : List Value} {Q Q2 : sw_Q} (hq : ∀ a s o t, Q a s o t → Q2 a s o t) (C : sw_ct w X l d y args h Q) : sw_ct w X l d y args h Q2 := by
  intro p e a1 a2 a3 s m ar below hf happ hP hK
  obtain ⟨n, o, b1, b2, b3, b4⟩ := C p e a1 a2 a3 s m ar below hf happ hP hK
  exact ⟨n, o, b1, b2, b3, hq _ _ _ _ b4.1, b4.2⟩
theorem sw_ct_monoI {y : sw_M} {args : List Value} {Q Q2 : Int32 → sw_H → Prop} (hq : ∀ r h2, Q r h2 → Q2 r h2) (C : sw_ct w X l d y args h (sw_qI w X Q)) : sw_ct w X l d y args h (sw_qI w X Q2) := by
  refine sw_ct_mono (fun a s o t q => ?_) C
  obtain ⟨⟨r, u, q1, q2, q3⟩, q4⟩ := q
  exact ⟨⟨r, u, q1, hq r u q2, q3⟩, q4⟩
theorem sw_ct_monoL {y : sw_M} {args : List Value} {Q Q2 : Int64 → sw_H → Prop} (hq : ∀ r h2, Q r h2 → Q2 r h2) (C : sw_ct w X l d y args h (sw_qL w X Q)) : sw_ct w X l d y args h (sw_qL w X Q2) := by
  refine sw_ct_mono (fun a s o t q => ?_) C
  obtain ⟨⟨r, u, q1, q2, q3⟩, q4⟩ := q
  exact ⟨⟨r, u, q1, hq r u q2, q3⟩, q4⟩
theorem sw_ct_monoV {y : sw_M} {args : List Value} {Q Q2 : sw_H → Prop} (hq : ∀ h2, Q h2 → Q2 h2) (C : sw_ct w X l d y args h (sw_qV w X Q)) : sw_ct w X l d y args h (sw_qV w X Q2) := by
  refine sw_ct_mono (fun a s o t q => ?_) C
  obtain ⟨⟨u, q1, q2, q3⟩, q4⟩ := q
  exact ⟨⟨u, q1, hq u q2, q3⟩, q4⟩
theorem z_xor_nonneg (x y : Int32) : 0 ≤ x ^^^ y ↔ (0 ≤ x ↔ 0 ≤ y) := by
  have key : ∀ z : Int32, (0 ≤ z ↔ z.toBitVec.msb = false) := by
    intro z
    rw [Int32.le_iff_toInt_le, BitVec.msb_eq_toInt]
    show (0 : Int) ≤ z.toBitVec.toInt ↔ _
    simp
  rw [key, key, key, Int32.toBitVec_xor, BitVec.msb_xor]
  cases x.toBitVec.msb <;> cases y.toBitVec.msb <;> simp
theorem c_maxZ {a b : Int} (a1 : -2147483648 ≤ a) (a2 : a < 2147483648) (b1 : -2147483648 ≤ b) (b2 : b < 2147483648) : sw_ct w X l d mJ9_max_7cf53 [.int (zI a), .int (zI b)] h (sw_qI w X fun r h2 => h2 = h ∧ r = zI (max a b)) := by
  refine sw_ct_monoI (fun r h2 q => ⟨q.1, ?_⟩) (c_max _ _)
  rw [q.2]
  by_cases e : a < b
  · rw [if_pos ((zI_lt a1 a2 b1 b2).mpr e)]; congr 1; omega
  · rw [if_neg (fun q => e ((zI_lt a1 a2 b1 b2).mp q))]; congr 1; omega
theorem c_minZ {a b : Int} (a1 : -2147483648 ≤ a) (a2 : a < 2147483648) (b1 : -2147483648 ≤ b) (b2 : b < 2147483648) : sw_ct w X l d mJ9_min_7cf53 [.int (zI a), .int (zI b)] h (sw_qI w X fun r h2 => h2 = h ∧ r = zI (min a b)) := by
  refine sw_ct_monoI (fun r h2 q => ⟨q.1, ?_⟩) (c_min _ _)
  rw [q.2]
  by_cases e : b < a
  · rw [if_pos ((zI_lt b1 b2 a1 a2).mpr e)]; congr 1; omega
  · rw [if_neg (fun q => e ((zI_lt b1 b2 a1 a2).mp q))]; congr 1; omega
theorem c_absZ {a : Int} (a1 : -2147483648 < a) (a2 : a < 2147483648) : sw_ct w X l d mJ9_abs_0f7a4 [.int (zI a)] h (sw_qI w X fun r h2 => h2 = h ∧ r = zI a.natAbs) := by
  refine sw_ct_monoI (fun r h2 q => ⟨q.1, ?_⟩) (c_absI _)
  rw [q.2]
  have e0 : (0 : Int32) = zI 0 := rfl
  rw [e0]
  by_cases e : 0 ≤ a
  · rw [if_pos ((zI_le (by omega) (by omega) (by omega) a2).mpr e)]; congr 1; omega
  · rw [if_neg (fun q => e ((zI_le (by omega) (by omega) (by omega) a2).mp q)), zI_neg]; congr 1; omega
theorem c_absLZ {a : Int} (a1 : -9223372036854775808 < a) (a2 : a < 9223372036854775808) : sw_ct w X l d mJ9_abs_067f4 [.long (zL a)] h (sw_qL w X fun r h2 => h2 = h ∧ r = zL a.natAbs) := by
  refine sw_ct_monoL (fun r h2 q => ⟨q.1, ?_⟩) (c_absL _)
  rw [q.2]
  by_cases e : 0 ≤ a
  · rw [if_pos ((zL_le (by omega) (by omega) (by omega) a2).mpr e)]; congr 1; omega
  · rw [if_neg (fun q => e ((zL_le (by omega) (by omega) (by omega) a2).mp q)), zL_neg]; congr 1; omega
theorem c_floorModZ {a b : Int} (a1 : -2147483648 < a) (a2 : a < 2147483648) (b1 : 0 < b) (b2 : b < 2147483648) : sw_ct w X l d mJ9_floorMod_7cf53 [.int (zI a), .int (zI b)] h (sw_qI w X fun r h2 => h2 = h ∧ r = zI (a % b)) := by
  have e0 : (0 : Int32) = zI 0 := rfl
  have hb0 : ¬ zI b = 0 := by rw [e0, zI_eq (by omega) (by omega) (by omega) (by omega)]; omega
  refine sw_ct_monoI (fun r h2 q => ⟨q.1, ?_⟩) (c_floorMod _ _ hb0)
  rw [q.2, zI_rem a1 a2 (by omega) b2]
  have hb1 : (0 : Int32) ≤ zI b := by rw [e0, zI_le (by omega) (by omega) (by omega) (by omega)]; omega
  have hx : 0 ≤ zI a ^^^ zI b ↔ 0 ≤ a := by
    rw [z_xor_nonneg, e0, zI_le (by omega) (by omega) (by omega) a2]
    exact ⟨fun q => q.mpr hb1, fun q => ⟨fun _ => hb1, fun _ => q⟩⟩
  have hm : -b < a.tmod b ∧ a.tmod b < b := by
    have := Int.tmod_lt_of_pos a b1
    have := Int.lt_tmod_of_pos a b1
    omega
  by_cases e : 0 ≤ a
  · rw [if_pos (hx.mpr e), Int.tmod_eq_emod_of_nonneg e]
  · rw [if_neg (fun q => e (hx.mp q)), e0]
    have hz : zI (a.tmod b) = zI 0 ↔ a.tmod b = 0 := zI_eq (by omega) (by omega) (by omega) (by omega)
    have h3 := Int.tmod_eq_emod (a := a) (b := b)
    by_cases hd : b ∣ a
    · have h4 : a.tmod b = 0 := Int.tmod_eq_zero_of_dvd hd
      rw [if_pos (hz.mpr h4), h4, Int.emod_eq_zero_of_dvd hd]
    · have h4 : ¬ a.tmod b = 0 := fun q => hd (Int.dvd_of_tmod_eq_zero q)
      rw [if_neg (fun q => h4 (hz.mp q)), zI_add, h3, if_neg (by simp [e, hd])]
      congr 1
      have : (b.natAbs : Int) = b := by omega
      omega
theorem c_fillI {a n : Nat} (hr : sw_r w a 0 n) (hn : n < 2147483648) (x : Int32) : sw_ct w X l d mJ7_fill_53178 [.ref a, .int x] h (sw_qV w X fun h2 => h2 = sw_pI h a fun k => if k < n then x else h.1 a k) := by
  refine sw_ct_of (by decide +kernel) (Nat.le_of_ble_eq_true rfl) rfl ?_
  have loop : ∀ m j : Nat, j + m = n → sw_wp w X l d mJ7_fill_53178 (sw_qV w X fun h2 => h2 = sw_pI h a fun k => if k < n then x else h.1 a k) 5 [(0, .ref a), (1, .int x), (2, .int (zI j)), (3, .int (Int32.ofNat n))] [] (sw_pI h a fun k => if k < j then x else h.1 a k) := by
    intro m
    induction m with
    | zero =>
      intro j hj
      have : j = n := by omega
      subst this
      refine sw_iload_n 6 dJ7_fill_53178_5 rfl rfl rfl ?_
      refine sw_iload_n 7 dJ7_fill_53178_6 rfl rfl rfl ?_
      refine sw_icmp_ge 20 10 dJ7_fill_53178_7 (by decide) rfl (fun c7 => ?_) (fun c7 => ?_)
      · exact sw_vret dJ7_fill_53178_20 rfl (rfl)
      · exact absurd (Int32.le_refl _) (by rw [← nI_z] at c7; exact c7)
    | succ m ih =>
      intro j hj
      have hin : vp_in (zI j) n := zI_inN (by omega) hn
      refine sw_iload_n 6 dJ7_fill_53178_5 rfl rfl rfl ?_
      refine sw_iload_n 7 dJ7_fill_53178_6 rfl rfl rfl ?_
      refine sw_icmp_ge 20 10 dJ7_fill_53178_7 (by decide) rfl (fun c7 => ?_) (fun c7 => ?_)
      · exact absurd c7 (by rw [show Int32.ofNat n = zI n from nI_z n, zI_le (by omega) (by omega) (by omega) (by omega)]; omega)
      · refine sw_aload_n 11 dJ7_fill_53178_10 rfl rfl rfl ?_
        refine sw_iload_n 12 dJ7_fill_53178_11 rfl rfl rfl ?_
        refine sw_iload_n 13 dJ7_fill_53178_12 rfl rfl rfl ?_
        refine sw_iast 14 dJ7_fill_53178_13 rfl (by first | assumption | exact ⟨by decide, rfl⟩) (by assumption) ?_
        refine sw_iinc (v := zI 1) (lc' := [(0, _), (1, _), (2, _), (3, _)]) 17 dJ7_fill_53178_14 rfl (by decide) rfl rfl rfl ?_
        refine sw_goto 5 dJ7_fill_53178_17 (by decide) ?_
        rw [sw_wI_pI, zI_clampN (by omega), zI_add]
        have e : (va_up (fun k => if k < j then x else h.1 a k) j x) = fun k => if k < j + 1 then x else h.1 a k := by
          funext k
          by_cases e1 : k = j
          · simp [va_up, e1]
          · have e2 : (k < j + 1) = (k < j) := by apply propext; omega
            simp [va_up, e1, e2]
        rw [e]
        exact ih (j + 1) (by omega)
  refine sw_iconst (v := zI 0) 1 dJ7_fill_53178_0 rfl (by decide) ?_
  refine sw_istore_n (lc' := [(0, _), (1, _), (2, _)]) 2 dJ7_fill_53178_1 rfl rfl (by decide) rfl ?_
  refine sw_aload_n 3 dJ7_fill_53178_2 rfl rfl rfl ?_
  refine sw_alen 4 dJ7_fill_53178_3 rfl (by first | assumption | exact ⟨by decide, rfl⟩) (by decide) ?_
  refine sw_istore_n (lc' := [(0, _), (1, _), (2, _), (3, _)]) 5 dJ7_fill_53178_4 rfl rfl (by decide) rfl ?_
  have e := loop n 0 (by omega)
  rw [show (sw_pI h a fun k => if k < 0 then x else h.1 a k) = h from sw_pI_self (by funext k; simp)] at e
  exact e
theorem c_fillL {a n : Nat} (hr : sw_r w a 1 n) (hn : n < 2147483648) (x : Int64) : sw_ct w X l d mJ7_fill_d0a16 [.ref a, .long x] h (sw_qV w X fun h2 => h2 = sw_pL h a fun k => if k < n then x else h.2 a k) := by
  refine sw_ct_of (by decide +kernel) (Nat.le_of_ble_eq_true rfl) rfl ?_
  have loop : ∀ m j : Nat, j + m = n → sw_wp w X l d mJ7_fill_d0a16 (sw_qV w X fun h2 => h2 = sw_pL h a fun k => if k < n then x else h.2 a k) 6 [(0, .ref a), (1, .long x), (3, .int (zI j)), (4, .int (Int32.ofNat n))] [] (sw_pL h a fun k => if k < j then x else h.2 a k) := by
    intro m
    induction m with
    | zero =>
      intro j hj
      have : j = n := by omega
      subst this
      refine sw_iload_n 7 dJ7_fill_d0a16_6 rfl rfl rfl ?_
      refine sw_iload 9 dJ7_fill_d0a16_7 rfl rfl ?_
      refine sw_icmp_ge 22 12 dJ7_fill_d0a16_9 (by decide) rfl (fun c9 => ?_) (fun c9 => ?_)
      · exact sw_vret dJ7_fill_d0a16_22 rfl (rfl)
      · exact absurd (Int32.le_refl _) (by rw [← nI_z] at c9; exact c9)
    | succ m ih =>
      intro j hj
      have hin : vp_in (zI j) n := zI_inN (by omega) hn
      refine sw_iload_n 7 dJ7_fill_d0a16_6 rfl rfl rfl ?_
      refine sw_iload 9 dJ7_fill_d0a16_7 rfl rfl ?_
      refine sw_icmp_ge 22 12 dJ7_fill_d0a16_9 (by decide) rfl (fun c9 => ?_) (fun c9 => ?_)
      · exact absurd c9 (by rw [show Int32.ofNat n = zI n from nI_z n, zI_le (by omega) (by omega) (by omega) (by omega)]; omega)
      · refine sw_aload_n 13 dJ7_fill_d0a16_12 rfl rfl rfl ?_
        refine sw_iload_n 14 dJ7_fill_d0a16_13 rfl rfl rfl ?_
        refine sw_lload_n 15 dJ7_fill_d0a16_14 rfl rfl rfl ?_
        refine sw_last 16 dJ7_fill_d0a16_15 rfl (by first | assumption | exact ⟨by decide, rfl⟩) (by assumption) ?_
        refine sw_iinc (v := zI 1) (lc' := [(0, _), (1, _), (3, _), (4, _)]) 19 dJ7_fill_d0a16_16 rfl (by decide) rfl rfl rfl ?_
        refine sw_goto 6 dJ7_fill_d0a16_19 (by decide) ?_
        rw [sw_wL_pL, zI_clampN (by omega), zI_add]
        have e : (va_up (fun k => if k < j then x else h.2 a k) j x) = fun k => if k < j + 1 then x else h.2 a k := by
          funext k
          by_cases e1 : k = j
          · simp [va_up, e1]
          · have e2 : (k < j + 1) = (k < j) := by apply propext; omega
            simp [va_up, e1, e2]
        rw [e]
        exact ih (j + 1) (by omega)
  refine sw_iconst (v := zI 0) 1 dJ7_fill_d0a16_0 rfl (by decide) ?_
  refine sw_istore_n (lc' := [(0, _), (1, _), (3, _)]) 2 dJ7_fill_d0a16_1 rfl rfl (by decide) rfl ?_
  refine sw_aload_n 3 dJ7_fill_d0a16_2 rfl rfl rfl ?_
  refine sw_alen 4 dJ7_fill_d0a16_3 rfl (by first | assumption | exact ⟨by decide, rfl⟩) (by decide) ?_
  refine sw_istore (lc' := [(0, _), (1, _), (3, _), (4, _)]) 6 dJ7_fill_d0a16_4 rfl (by decide) rfl ?_
  have e := loop n 0 (by omega)
  rw [show (sw_pL h a fun k => if k < 0 then x else h.2 a k) = h from sw_pL_self (by funext k; simp)] at e
  exact e
end sw_jdk
