/-! UNIT: a fraction becomes a unit; a unit is spelled -/
def cntUp (q : Int) : Nat → Int → Nat
  | 0, _ => 0
  | m + 1, r => if r % q = 0 then cntUp q m (r / q) + 1 else 0
def restZ (p : Nat → Int) : Nat → Int → Int
  | 0, r => r
  | i + 1, r => divUp (p i) 6 (restZ p i r)
def frE (p : Nat → Int) (up down : Int) (i : Nat) : Int := (cntUp (p i) 6 (restZ p i up) : Int) - cntUp (p i) 6 (restZ p i down)
def frR (n : Nat) (e : Nat → Int) (f : Nat → Int32) : Nat → Int32 := fun k => if k < 4 then (if k < n then zI (e k) else zI 0) else f k
theorem cntUp_le (q : Int) : ∀ (m : Nat) (r : Int), cntUp q m r ≤ m
  | 0, _ => Nat.le_refl 0
  | m + 1, r => by
    unfold cntUp
    by_cases e : r % q = 0
    · rw [if_pos e]; have := cntUp_le q m (r / q); omega
    · rw [if_neg e]; omega
theorem frR_step {n : Nat} {e : Nat → Int} {f : Nat → Int32} (hn : n < 4) : va_up (frR n e f) n (zI (e n)) = frR (n + 1) e f := by
  funext k
  unfold va_up frR
  by_cases h1 : k = n
  · subst h1; rw [if_pos rfl, if_pos hn, if_pos (by omega)]
  · rw [if_neg h1]
    by_cases h2 : k < 4
    · rw [if_pos h2, if_pos h2]
      have e2 : (k < n) = (k < n + 1) := by apply propext; omega
      simp only [e2]
    · rw [if_neg h2, if_neg h2]
theorem frR_at {n : Nat} {e : Nat → Int} {f : Nat → Int32} (hn : n < 4) : frR n e f n = zI 0 := by
  unfold frR; rw [if_pos hn, if_neg (by omega)]
theorem va_up_up {α : Type} (f : Nat → α) (k : Nat) (a b : α) : va_up (va_up f k a) k b = va_up f k b := by
  funext i; unfold va_up; by_cases e : i = k <;> simp [e]
theorem restZ_pos {p : Nat → Int} : ∀ (n : Nat) {r : Int}, (∀ i, i < n → 2 ≤ p i) → 0 < r → 0 < restZ p n r ∧ restZ p n r ≤ r
  | 0, r, _, hr => ⟨hr, Int.le_refl _⟩
  | n + 1, r, hp, hr => by
    have h1 := restZ_pos n (fun i hi => hp i (by omega)) hr
    have h2 := divUp_pos (hp n (by omega)) 6 h1.1
    unfold restZ
    omega
theorem ediv_pos' {r q : Int} (hr : 0 < r) (hq : 2 ≤ q) (h : r % q = 0) : 0 < r / q ∧ r / q ≤ r := by
  have h9 := divUp_pos (q := q) hq 1 hr
  rw [show divUp q 1 r = r / q by unfold divUp; rw [if_pos h]; rfl] at h9
  exact h9
section sw_unit2
variable {w : sw_W} {X : sw_X} {l : Launch} {d : Nat} {h : sw_H} {u pu b pa ba n : Nat} {p bx : Nat → Int}
theorem c_U_setFraction (S : isU w u pu) (SB : isB w b pa ba) (V : atB h b pa ba n p bx) (n1 : b ≠ u) (n2 : b ≠ pu) (n3 : pa ≠ u) (n4 : pa ≠ pu) {x y : Int} (x1 : -9223372036854775808 < x) (x2 : x < 9223372036854775808) (y1 : -9223372036854775808 < y) (y2 : y < 9223372036854775808) :
    sw_ct w X l (d + 2) mX10_setFraction [.ref u, .ref b, .long (zL x), .long (zL y)] h (sw_qI w X fun r h2 => (¬ (x = 0 ∨ y ≤ 0) → h2 = uH h u pu (frR n (frE p x.natAbs y) (h.1 pu)) (zI (if x < 0 then -1 else 1)) ∧ r = zI (if restZ p n x.natAbs = 1 ∧ restZ p n y = 1 then 1 else 0)) ∧ ((x = 0 ∨ y ≤ 0) → h2 = uH h u pu (frR 0 (frE p x.natAbs y) (h.1 pu)) (zI 1) ∧ r = zI 0)) := by
  have S0 := S
  obtain ⟨s1, s2, s3, s4⟩ := S
  obtain ⟨q1, q2, q3, q4, q5, q6, q7, q8⟩ := SB
  obtain ⟨v3, v4, v5, v6⟩ := V
  refine sw_ct_of (by decide +kernel) (Nat.le_of_ble_eq_true rfl) rfl ?_
  generalize hQ : (sw_qI w X fun r h2 => (¬ (x = 0 ∨ y ≤ 0) → h2 = uH h u pu (frR n (frE p x.natAbs y) (h.1 pu)) (zI (if x < 0 then -1 else 1)) ∧ r = zI (if restZ p n x.natAbs = 1 ∧ restZ p n y = 1 then 1 else 0)) ∧ ((x = 0 ∨ y ≤ 0) → h2 = uH h u pu (frR 0 (frE p x.natAbs y) (h.1 pu)) (zI 1) ∧ r = zI 0)) = Qc
  have inner1 : ∀ (m j i : Nat) (r dn : Int) (F : Nat → Int32) (c9 : Int) (sx : Int32), j + m = 6 → i < n → 0 < r → r < 9223372036854775808 →
      sw_wp w X l (d + 2) mX10_setFraction Qc 110 [(0, .ref u), (1, .ref b), (2, .long (zL x)), (4, .long (zL y)), (6, .long (zL (divUp (p i) m r))), (8, .long (zL dn)), (10, .int (zI i)), (11, .int (zI (p i)))] [] (uH h u pu (va_up F i (zI (c9 + cntUp (p i) m r))) sx) →
      sw_wp w X l (d + 2) mX10_setFraction Qc 68 [(0, .ref u), (1, .ref b), (2, .long (zL x)), (4, .long (zL y)), (6, .long (zL r)), (8, .long (zL dn)), (10, .int (zI i)), (11, .int (zI (p i))), (12, .int (zI j))] [] (uH h u pu (va_up F i (zI c9)) sx) := by
    intro m
    induction m with
    | zero =>
      intro j i r dn F c9 sx hj hi hr1 hr2 k
      have : j = 6 := by omega
      subst this
      rw [show divUp (p i) 0 r = r from rfl, show cntUp (p i) 0 r = 0 from rfl, show c9 + ((0 : Nat) : Int) = c9 by omega] at k
      refine sw_iload 70 dX10_setFraction_68 rfl rfl ?_
      refine sw_bipush (v := zI 6) 72 dX10_setFraction_70 rfl (by decide) ?_
      refine sw_icmp_ge 110 75 dX10_setFraction_72 (by decide) rfl (fun c72 => ?_) (fun c72 => ?_)
      · exact sw_wp_sub (by simp) k
      · exact absurd (Int32.le_refl _) c72
    | succ m ih =>
      intro j i r dn F c9 sx hj hi hr1 hr2 k
      have hp := v5 i hi
      have hpz : ¬ zL (p i) = 0 := by rw [zL0, zL_eq (by omega) (by omega) (by omega) (by omega)]; omega
      have hdu : divUp (p i) (m + 1) r = if r % p i = 0 then divUp (p i) m (r / p i) else r := rfl
      have hcu : cntUp (p i) (m + 1) r = if r % p i = 0 then cntUp (p i) m (r / p i) + 1 else 0 := rfl
      have hm0 : 0 ≤ r % p i := Int.emod_nonneg _ (by omega)
      have hm1 : r % p i < p i := Int.emod_lt_of_pos _ (by omega)
      have hin : vp_in (zI i) 4 := zI_inN (by omega) (by omega)
      refine sw_iload 70 dX10_setFraction_68 rfl rfl ?_
      refine sw_bipush (v := zI 6) 72 dX10_setFraction_70 rfl (by decide) ?_
      refine sw_icmp_ge 110 75 dX10_setFraction_72 (by decide) rfl (fun c72 => ?_) (fun c72 => ?_)
      · exact absurd c72 (by rw [zI_le (by omega) (by omega) (by omega) (by omega)]; omega)
      · refine sw_iload 77 dX10_setFraction_75 rfl rfl ?_
        refine sw_lload 79 dX10_setFraction_77 rfl rfl ?_
        refine sw_invSNI 82 dX10_setFraction_79 rfl lk_RX10_66 (c_divides hp.2.1 hp.2.2 (by omega) hr2) rfl rfl (Nat.le_of_ble_eq_true rfl) (fun r79 h79 hq79 => ?_)
        obtain ⟨rfl, rfl⟩ := hq79
        refine sw_if_eq 110 85 dX10_setFraction_82 (by decide) rfl (fun c82 => ?_) (fun c82 => ?_)
        · have cq := dv_0 c82
          rw [hdu, hcu, if_neg cq, if_neg cq, show c9 + ((0 : Nat) : Int) = c9 by omega] at k
          exact sw_wp_sub (by simp) k
        · have cq := dv_1 c82
          have hq := ediv_pos' hr1 hp.2.1 cq
          rw [hdu, hcu, if_pos cq, if_pos cq] at k
          refine sw_lload 87 dX10_setFraction_85 rfl rfl ?_
          refine sw_iload 89 dX10_setFraction_87 rfl rfl ?_
          refine sw_i2l 90 dX10_setFraction_89 rfl ?_
          rw [zI_i2l (by omega) (by omega)]
          refine sw_ldiv 91 dX10_setFraction_90 rfl (by first | assumption | decide) ?_
          rw [zL_div (by omega) (by omega) (by omega) (by omega), Int.tdiv_eq_ediv_of_nonneg (by omega)]
          refine sw_lstore (lc' := [(0, _), (1, _), (2, _), (4, _), (6, _), (8, _), (10, _), (11, _), (12, _)]) 93 dX10_setFraction_91 rfl (by decide) rfl ?_
          refine sw_aload_n 94 dX10_setFraction_93 rfl rfl rfl ?_
          refine sw_getR 97 dX10_setFraction_94 rfl gf_RX10_9 (fun _ _ _ _ => rfl) (by first | assumption | exact ⟨by decide, rfl⟩) (by first | assumption | rfl) ?_
          refine sw_iload 99 dX10_setFraction_97 rfl rfl ?_
          refine sw_dup2 100 dX10_setFraction_99 rfl rfl rfl ?_
          refine sw_iald 101 dX10_setFraction_100 rfl (by first | assumption | exact ⟨by decide, rfl⟩) (by assumption) ?_
          refine sw_iconst (v := zI 1) 102 dX10_setFraction_101 rfl (by decide) ?_
          refine sw_iadd 103 dX10_setFraction_102 rfl ?_
          refine sw_iast 104 dX10_setFraction_103 rfl (by first | assumption | exact ⟨by decide, rfl⟩) (by assumption) ?_
          refine sw_iinc (v := zI 1) (lc' := [(0, _), (1, _), (2, _), (4, _), (6, _), (8, _), (10, _), (11, _), (12, _)]) 107 dX10_setFraction_104 rfl (by decide) rfl rfl rfl ?_
          refine sw_goto 68 dX10_setFraction_107 (by decide) ?_
          rw [zI_clampN (by omega), uH_row S0, show va_up F i (zI c9) i = zI c9 by simp [va_up], zI_add, zI_add, uH_up S0, va_up_up]
          refine ih (j + 1) i (r / p i) dn F (c9 + 1) sx (by omega) hi hq.1 (by omega) ?_
          rw [show c9 + 1 + (cntUp (p i) m (r / p i) : Int) = c9 + ((cntUp (p i) m (r / p i) + 1 : Nat) : Int) by omega]
          exact k
  have inner2 : ∀ (m j i : Nat) (up r : Int) (F : Nat → Int32) (c9 : Int) (sx : Int32), j + m = 6 → i < n → 0 < r → r < 9223372036854775808 →
      sw_wp w X l (d + 2) mX10_setFraction Qc 155 [(0, .ref u), (1, .ref b), (2, .long (zL x)), (4, .long (zL y)), (6, .long (zL up)), (8, .long (zL (divUp (p i) m r))), (10, .int (zI i)), (11, .int (zI (p i)))] [] (uH h u pu (va_up F i (zI (c9 - cntUp (p i) m r))) sx) →
      sw_wp w X l (d + 2) mX10_setFraction Qc 113 [(0, .ref u), (1, .ref b), (2, .long (zL x)), (4, .long (zL y)), (6, .long (zL up)), (8, .long (zL r)), (10, .int (zI i)), (11, .int (zI (p i))), (12, .int (zI j))] [] (uH h u pu (va_up F i (zI c9)) sx) := by
    intro m
    induction m with
    | zero =>
      intro j i up r F c9 sx hj hi hr1 hr2 k
      have : j = 6 := by omega
      subst this
      rw [show divUp (p i) 0 r = r from rfl, show cntUp (p i) 0 r = 0 from rfl, show c9 - ((0 : Nat) : Int) = c9 by omega] at k
      refine sw_iload 115 dX10_setFraction_113 rfl rfl ?_
      refine sw_bipush (v := zI 6) 117 dX10_setFraction_115 rfl (by decide) ?_
      refine sw_icmp_ge 155 120 dX10_setFraction_117 (by decide) rfl (fun c117 => ?_) (fun c117 => ?_)
      · exact sw_wp_sub (by simp) k
      · exact absurd (Int32.le_refl _) c117
    | succ m ih =>
      intro j i up r F c9 sx hj hi hr1 hr2 k
      have hp := v5 i hi
      have hpz : ¬ zL (p i) = 0 := by rw [zL0, zL_eq (by omega) (by omega) (by omega) (by omega)]; omega
      have hdu : divUp (p i) (m + 1) r = if r % p i = 0 then divUp (p i) m (r / p i) else r := rfl
      have hcu : cntUp (p i) (m + 1) r = if r % p i = 0 then cntUp (p i) m (r / p i) + 1 else 0 := rfl
      have hm0 : 0 ≤ r % p i := Int.emod_nonneg _ (by omega)
      have hm1 : r % p i < p i := Int.emod_lt_of_pos _ (by omega)
      have hin : vp_in (zI i) 4 := zI_inN (by omega) (by omega)
      refine sw_iload 115 dX10_setFraction_113 rfl rfl ?_
      refine sw_bipush (v := zI 6) 117 dX10_setFraction_115 rfl (by decide) ?_
      refine sw_icmp_ge 155 120 dX10_setFraction_117 (by decide) rfl (fun c117 => ?_) (fun c117 => ?_)
      · exact absurd c117 (by rw [zI_le (by omega) (by omega) (by omega) (by omega)]; omega)
      · refine sw_iload 122 dX10_setFraction_120 rfl rfl ?_
        refine sw_lload 124 dX10_setFraction_122 rfl rfl ?_
        refine sw_invSNI 127 dX10_setFraction_124 rfl lk_RX10_66 (c_divides hp.2.1 hp.2.2 (by omega) hr2) rfl rfl (Nat.le_of_ble_eq_true rfl) (fun r124 h124 hq124 => ?_)
        obtain ⟨rfl, rfl⟩ := hq124
        refine sw_if_eq 155 130 dX10_setFraction_127 (by decide) rfl (fun c127 => ?_) (fun c127 => ?_)
        · have cq := dv_0 c127
          rw [hdu, hcu, if_neg cq, if_neg cq, show c9 - ((0 : Nat) : Int) = c9 by omega] at k
          exact sw_wp_sub (by simp) k
        · have cq := dv_1 c127
          have hq := ediv_pos' hr1 hp.2.1 cq
          rw [hdu, hcu, if_pos cq, if_pos cq] at k
          refine sw_lload 132 dX10_setFraction_130 rfl rfl ?_
          refine sw_iload 134 dX10_setFraction_132 rfl rfl ?_
          refine sw_i2l 135 dX10_setFraction_134 rfl ?_
          rw [zI_i2l (by omega) (by omega)]
          refine sw_ldiv 136 dX10_setFraction_135 rfl (by first | assumption | decide) ?_
          rw [zL_div (by omega) (by omega) (by omega) (by omega), Int.tdiv_eq_ediv_of_nonneg (by omega)]
          refine sw_lstore (lc' := [(0, _), (1, _), (2, _), (4, _), (6, _), (8, _), (10, _), (11, _), (12, _)]) 138 dX10_setFraction_136 rfl (by decide) rfl ?_
          refine sw_aload_n 139 dX10_setFraction_138 rfl rfl rfl ?_
          refine sw_getR 142 dX10_setFraction_139 rfl gf_RX10_9 (fun _ _ _ _ => rfl) (by first | assumption | exact ⟨by decide, rfl⟩) (by first | assumption | rfl) ?_
          refine sw_iload 144 dX10_setFraction_142 rfl rfl ?_
          refine sw_dup2 145 dX10_setFraction_144 rfl rfl rfl ?_
          refine sw_iald 146 dX10_setFraction_145 rfl (by first | assumption | exact ⟨by decide, rfl⟩) (by assumption) ?_
          refine sw_iconst (v := zI 1) 147 dX10_setFraction_146 rfl (by decide) ?_
          refine sw_isub 148 dX10_setFraction_147 rfl ?_
          refine sw_iast 149 dX10_setFraction_148 rfl (by first | assumption | exact ⟨by decide, rfl⟩) (by assumption) ?_
          refine sw_iinc (v := zI 1) (lc' := [(0, _), (1, _), (2, _), (4, _), (6, _), (8, _), (10, _), (11, _), (12, _)]) 152 dX10_setFraction_149 rfl (by decide) rfl rfl rfl ?_
          refine sw_goto 113 dX10_setFraction_152 (by decide) ?_
          rw [zI_clampN (by omega), uH_row S0, show va_up F i (zI c9) i = zI c9 by simp [va_up], zI_sub, zI_add, uH_up S0, va_up_up]
          refine ih (j + 1) i up (r / p i) F (c9 - 1) sx (by omega) hi hq.1 (by omega) ?_
          rw [show c9 - 1 - (cntUp (p i) m (r / p i) : Int) = c9 - ((cntUp (p i) m (r / p i) + 1 : Nat) : Int) by omega]
          exact k
  have loop : ¬ (x = 0 ∨ y ≤ 0) → ∀ m j : Nat, j + m = n → sw_wp w X l (d + 2) mX10_setFraction Qc 47 [(0, .ref u), (1, .ref b), (2, .long (zL x)), (4, .long (zL y)), (6, .long (zL (restZ p j x.natAbs))), (8, .long (zL (restZ p j y))), (10, .int (zI j))] [] (uH h u pu (frR j (frE p x.natAbs y) (h.1 pu)) (zI (if x < 0 then -1 else 1))) := by
    intro hxy m
    induction m with
    | zero =>
      intro j hj
      have : j = n := by omega
      subst this
      have hr1 := restZ_pos (p := p) j (r := x.natAbs) (fun i hi => (v5 i hi).2.1) (by omega)
      have hr2 := restZ_pos (p := p) j (r := y) (fun i hi => (v5 i hi).2.1) (by omega)
      subst hQ
      refine sw_iload 49 dX10_setFraction_47 rfl rfl ?_
      refine sw_aload_n 50 dX10_setFraction_49 rfl rfl rfl ?_
      refine sw_getI 53 dX10_setFraction_50 rfl gf_RX10_41 rfl (by first | assumption | exact ⟨by decide, rfl⟩) ?_
      rw [uH_other n1 n2, v3]
      refine sw_icmp_ge 161 56 dX10_setFraction_53 (by decide) rfl (fun c53 => ?_) (fun c53 => ?_)
      · refine sw_lload 163 dX10_setFraction_161 rfl rfl ?_
        refine sw_lconst (v := zL 1) 164 dX10_setFraction_163 rfl (by decide) ?_
        refine sw_lcmp 165 dX10_setFraction_164 rfl ?_
        refine sw_if_ne 179 168 dX10_setFraction_165 (by decide) rfl (fun c165 => ?_) (fun c165 => ?_)
        · refine sw_iconst (v := zI 0) 180 dX10_setFraction_179 rfl (by decide) ?_
          exact sw_zret (by first | exact Or.inl rfl | exact Or.inr rfl | assumption) dX10_setFraction_180 rfl (⟨fun _ => ⟨rfl, by
  rw [lc_eq, zL_eq (by omega) (by omega) (by omega) (by omega)] at c165
  try rw [lc_eq, zL_eq (by omega) (by omega) (by omega) (by omega)] at c172
  first
  | (simp [c165, c172]; done)
  | (simp [c165]; done)⟩, fun q => absurd q hxy⟩)
        · refine sw_lload 170 dX10_setFraction_168 rfl rfl ?_
          refine sw_lconst (v := zL 1) 171 dX10_setFraction_170 rfl (by decide) ?_
          refine sw_lcmp 172 dX10_setFraction_171 rfl ?_
          refine sw_if_ne 179 175 dX10_setFraction_172 (by decide) rfl (fun c172 => ?_) (fun c172 => ?_)
          · refine sw_iconst (v := zI 0) 180 dX10_setFraction_179 rfl (by decide) ?_
            exact sw_zret (by first | exact Or.inl rfl | exact Or.inr rfl | assumption) dX10_setFraction_180 rfl (⟨fun _ => ⟨rfl, by
  rw [lc_eq, zL_eq (by omega) (by omega) (by omega) (by omega)] at c165
  try rw [lc_eq, zL_eq (by omega) (by omega) (by omega) (by omega)] at c172
  first
  | (simp [c165, c172]; done)
  | (simp [c165]; done)⟩, fun q => absurd q hxy⟩)
          · refine sw_iconst (v := zI 1) 176 dX10_setFraction_175 rfl (by decide) ?_
            refine sw_goto 180 dX10_setFraction_176 (by decide) ?_
            exact sw_zret (by first | exact Or.inl rfl | exact Or.inr rfl | assumption) dX10_setFraction_180 rfl (⟨fun _ => ⟨rfl, by
  rw [lc_eq, zL_eq (by omega) (by omega) (by omega) (by omega)] at c165
  try rw [lc_eq, zL_eq (by omega) (by omega) (by omega) (by omega)] at c172
  first
  | (simp [c165, c172]; done)
  | (simp [c165]; done)⟩, fun q => absurd q hxy⟩)
      · exact absurd (Int32.le_refl _) c53
    | succ m ih =>
      intro j hj
      have hp := v5 j (by omega)
      have hin : vp_in (zI j) 4 := zI_inN (by omega) (by omega)
      have hr1 := restZ_pos (p := p) j (r := x.natAbs) (fun i hi => (v5 i (by omega)).2.1) (by omega)
      have hr2 := restZ_pos (p := p) j (r := y) (fun i hi => (v5 i (by omega)).2.1) (by omega)
      have e9 : frR j (frE p x.natAbs y) (h.1 pu) = va_up (frR j (frE p x.natAbs y) (h.1 pu)) j (zI 0) := by
        funext k; unfold va_up; by_cases e : k = j
        · subst e; rw [if_pos rfl, frR_at (by omega)]
        · rw [if_neg e]
      refine sw_iload 49 dX10_setFraction_47 rfl rfl ?_
      refine sw_aload_n 50 dX10_setFraction_49 rfl rfl rfl ?_
      refine sw_getI 53 dX10_setFraction_50 rfl gf_RX10_41 rfl (by first | assumption | exact ⟨by decide, rfl⟩) ?_
      rw [uH_other n1 n2, v3]
      refine sw_icmp_ge 161 56 dX10_setFraction_53 (by decide) rfl (fun c53 => ?_) (fun c53 => ?_)
      · exact absurd c53 (by rw [zI_le (by omega) (by omega) (by omega) (by omega)]; omega)
      · refine sw_aload_n 57 dX10_setFraction_56 rfl rfl rfl ?_
        refine sw_getR 60 dX10_setFraction_57 rfl gf_RX10_46 (fun _ _ _ _ => rfl) (by first | assumption | exact ⟨by decide, rfl⟩) (by first | assumption | rfl) ?_
        refine sw_iload 62 dX10_setFraction_60 rfl rfl ?_
        refine sw_iald 63 dX10_setFraction_62 rfl (by first | assumption | exact ⟨by decide, rfl⟩) (by assumption) ?_
        rw [zI_clampN (by omega), uH_other n3 n4, hp.1]
        refine sw_istore (lc' := [(0, _), (1, _), (2, _), (4, _), (6, _), (8, _), (10, _), (11, _)]) 65 dX10_setFraction_63 rfl (by decide) rfl ?_
        refine sw_iconst (v := zI 0) 66 dX10_setFraction_65 rfl (by decide) ?_
        refine sw_istore (lc' := [(0, _), (1, _), (2, _), (4, _), (6, _), (8, _), (10, _), (11, _), (12, _)]) 68 dX10_setFraction_66 rfl (by decide) rfl ?_
        rw [e9]
        refine inner1 6 0 j _ _ _ 0 _ (by omega) (by omega) hr1.1 (by omega) ?_
        refine sw_iconst (v := zI 0) 111 dX10_setFraction_110 rfl (by decide) ?_
        refine sw_istore (lc' := [(0, _), (1, _), (2, _), (4, _), (6, _), (8, _), (10, _), (11, _), (12, _)]) 113 dX10_setFraction_111 rfl (by decide) rfl ?_
        refine inner2 6 0 j _ _ _ _ _ (by omega) (by omega) hr2.1 (by omega) ?_
        refine sw_iinc (v := zI 1) (lc' := [(0, _), (1, _), (2, _), (4, _), (6, _), (8, _), (10, _), (11, _)]) 158 dX10_setFraction_155 rfl (by decide) rfl rfl rfl ?_
        refine sw_goto 47 dX10_setFraction_158 (by decide) ?_
        rw [zI_add, show (0 : Int) + (cntUp (p j) 6 (restZ p j x.natAbs) : Int) - (cntUp (p j) 6 (restZ p j y) : Int) = frE p x.natAbs y j by unfold frE; omega, frR_step (by omega)]
        exact sw_wp_sub (by simp [restZ]) (ih (j + 1) (by omega))
  have f0 : uH h u pu (fun k => if k < 4 then zI 0 else h.1 pu k) (zI 1) = uH h u pu (frR 0 (frE p x.natAbs y) (h.1 pu)) (zI 1) := by
    congr 1
  refine sw_aload_n 1 dX10_setFraction_0 rfl rfl rfl ?_
  refine sw_invVV 4 dX10_setFraction_1 rfl lk_RX10_60 (c_U_setOne S0) (by first | assumption | exact ⟨by decide, rfl⟩) rfl rfl (Nat.le_of_ble_eq_true rfl) (fun h1 hq1 => ?_)
  subst hq1
  refine sw_lload_n 5 dX10_setFraction_4 rfl rfl rfl ?_
  refine sw_lconst (v := zL 0) 6 dX10_setFraction_5 rfl (by decide) ?_
  refine sw_lcmp 7 dX10_setFraction_6 rfl ?_
  refine sw_if_eq 17 10 dX10_setFraction_7 (by decide) rfl (fun c7 => ?_) (fun c7 => ?_)
  · rw [f0]
    subst hQ
    refine sw_iconst (v := zI 0) 18 dX10_setFraction_17 rfl (by decide) ?_
    exact sw_zret (by first | exact Or.inl rfl | exact Or.inr rfl | assumption) dX10_setFraction_18 rfl (by
  try rw [lc_eq, zL_eq (by omega) (by omega) (by omega) (by omega)] at c7
  try rw [lc_gt, zL_lt (by omega) (by omega) (by omega) (by omega)] at c14
  exact ⟨fun q => absurd (by omega) q, fun _ => ⟨rfl, rfl⟩⟩)
  · refine sw_lload 12 dX10_setFraction_10 rfl rfl ?_
    refine sw_lconst (v := zL 0) 13 dX10_setFraction_12 rfl (by decide) ?_
    refine sw_lcmp 14 dX10_setFraction_13 rfl ?_
    refine sw_if_gt 19 17 dX10_setFraction_14 (by decide) rfl (fun c14 => ?_) (fun c14 => ?_)
    · refine sw_aload_n 20 dX10_setFraction_19 rfl rfl rfl ?_
      refine sw_lload_n 21 dX10_setFraction_20 rfl rfl rfl ?_
      refine sw_lconst (v := zL 0) 22 dX10_setFraction_21 rfl (by decide) ?_
      refine sw_lcmp 23 dX10_setFraction_22 rfl ?_
      refine sw_if_ge 30 26 dX10_setFraction_23 (by decide) rfl (fun c23 => ?_) (fun c23 => ?_)
      · refine sw_iconst (v := zI 1) 31 dX10_setFraction_30 rfl (by decide) ?_
        rw [f0]
        refine sw_putI 34 dX10_setFraction_31 rfl pf_RX10_15 rfl (by first | assumption | exact ⟨by decide, rfl⟩) ?_
        refine sw_lload_n 35 dX10_setFraction_34 rfl rfl rfl ?_
        rw [uH_sg S0]
        refine sw_invSL 38 dX10_setFraction_35 rfl lk_RX10_63 (c_absLZ (by omega) (by omega)) rfl rfl (Nat.le_of_ble_eq_true rfl) (fun r35 h35 hq35 => ?_)
        obtain ⟨rfl, rfl⟩ := hq35
        refine sw_lstore (lc' := [(0, _), (1, _), (2, _), (4, _), (6, _)]) 40 dX10_setFraction_38 rfl (by decide) rfl ?_
        refine sw_lload 42 dX10_setFraction_40 rfl rfl ?_
        refine sw_lstore (lc' := [(0, _), (1, _), (2, _), (4, _), (6, _), (8, _)]) 44 dX10_setFraction_42 rfl (by decide) rfl ?_
        refine sw_iconst (v := zI 0) 45 dX10_setFraction_44 rfl (by decide) ?_
        refine sw_istore (lc' := [(0, _), (1, _), (2, _), (4, _), (6, _), (8, _), (10, _)]) 47 dX10_setFraction_45 rfl (by decide) rfl ?_
        rw [lc_eq, zL_eq (by omega) (by omega) (by omega) (by omega)] at c7
        rw [lc_gt, zL_lt (by omega) (by omega) (by omega) (by omega)] at c14
        rw [lc_ge, zL_le (by omega) (by omega) (by omega) (by omega)] at c23
        have e := loop (by omega) n 0 (by omega)
        first
        | (rw [if_neg (by omega)] at e; exact e)
        | (rw [if_pos (by omega)] at e; exact e)
      · refine sw_iconst (v := zI (-1)) 27 dX10_setFraction_26 rfl (by decide) ?_
        refine sw_goto 31 dX10_setFraction_27 (by decide) ?_
        rw [f0]
        refine sw_putI 34 dX10_setFraction_31 rfl pf_RX10_15 rfl (by first | assumption | exact ⟨by decide, rfl⟩) ?_
        refine sw_lload_n 35 dX10_setFraction_34 rfl rfl rfl ?_
        rw [uH_sg S0]
        refine sw_invSL 38 dX10_setFraction_35 rfl lk_RX10_63 (c_absLZ (by omega) (by omega)) rfl rfl (Nat.le_of_ble_eq_true rfl) (fun r35 h35 hq35 => ?_)
        obtain ⟨rfl, rfl⟩ := hq35
        refine sw_lstore (lc' := [(0, _), (1, _), (2, _), (4, _), (6, _)]) 40 dX10_setFraction_38 rfl (by decide) rfl ?_
        refine sw_lload 42 dX10_setFraction_40 rfl rfl ?_
        refine sw_lstore (lc' := [(0, _), (1, _), (2, _), (4, _), (6, _), (8, _)]) 44 dX10_setFraction_42 rfl (by decide) rfl ?_
        refine sw_iconst (v := zI 0) 45 dX10_setFraction_44 rfl (by decide) ?_
        refine sw_istore (lc' := [(0, _), (1, _), (2, _), (4, _), (6, _), (8, _), (10, _)]) 47 dX10_setFraction_45 rfl (by decide) rfl ?_
        rw [lc_eq, zL_eq (by omega) (by omega) (by omega) (by omega)] at c7
        rw [lc_gt, zL_lt (by omega) (by omega) (by omega) (by omega)] at c14
        rw [lc_ge, zL_le (by omega) (by omega) (by omega) (by omega)] at c23
        have e := loop (by omega) n 0 (by omega)
        first
        | (rw [if_neg (by omega)] at e; exact e)
        | (rw [if_pos (by omega)] at e; exact e)
    · rw [f0]
      subst hQ
      refine sw_iconst (v := zI 0) 18 dX10_setFraction_17 rfl (by decide) ?_
      exact sw_zret (by first | exact Or.inl rfl | exact Or.inr rfl | assumption) dX10_setFraction_18 rfl (by
  try rw [lc_eq, zL_eq (by omega) (by omega) (by omega) (by omega)] at c7
  try rw [lc_gt, zL_lt (by omega) (by omega) (by omega) (by omega)] at c14
  exact ⟨fun q => absurd (by omega) q, fun _ => ⟨rfl, rfl⟩⟩)
end sw_unit2
