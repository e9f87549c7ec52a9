/-! UNIT: spelling -/
def facZ (p e : Int) : List Int := (if 10 ≤ p then [48 + p / 10] else []) ++ ([48 + p % 10] ++ (if e = 1 then [] else [94] ++ ((if e < 0 then [45] else []) ++ [48 + (e.natAbs : Int)])))
theorem facZ_len (p e : Int) : 1 ≤ (facZ p e).length ∧ (facZ p e).length ≤ 5 := by
  unfold facZ
  by_cases h1 : 10 ≤ p <;> by_cases h2 : e = 1 <;> by_cases h3 : e < 0 <;> simp [h1, h2, h3]
theorem appR_1 (f : Nat → Int32) (k : Nat) (a : Int) (b : List Int) : appR (appR f k [a]) (k + 1) b = appR f k (a :: b) := appR_app f k [a] b
theorem appR_2 (f : Nat → Int32) (k : Nat) (a a2 : Int) (b : List Int) : appR (appR f k [a, a2]) (k + 1 + 1) b = appR f k (a :: a2 :: b) := appR_app f k [a, a2] b
theorem appR_3 (f : Nat → Int32) (k : Nat) (a a2 a3 : Int) (b : List Int) : appR (appR f k [a, a2, a3]) (k + 1 + 1 + 1) b = appR f k (a :: a2 :: a3 :: b) := appR_app f k [a, a2, a3] b
theorem appR_4 (f : Nat → Int32) (k : Nat) (a a2 a3 a4 : Int) (b : List Int) : appR (appR f k [a, a2, a3, a4]) (k + 1 + 1 + 1 + 1) b = appR f k (a :: a2 :: a3 :: a4 :: b) := appR_app f k [a, a2, a3, a4] b
def bodyZ (p e : Nat → Int) : Nat → Nat → Bool → List Int
  | 0, _, _ => []
  | m + 1, i, φ => if e i = 0 then bodyZ p e m (i + 1) φ else (if φ then [] else [42]) ++ (facZ (p i) (e i) ++ bodyZ p e m (i + 1) false)
def firstZ (e : Nat → Int) : Nat → Nat → Bool → Bool
  | 0, _, φ => φ
  | m + 1, i, φ => if e i = 0 then firstZ e m (i + 1) φ else firstZ e m (i + 1) false
def spellZ (sg : Int) (p e : Nat → Int) (n : Nat) : List Int := (if sg < 0 then [45] else []) ++ (bodyZ p e n 0 true ++ (if firstZ e n 0 true then [49] else []))
section sw_spell
variable {w : sw_W} {X : sw_X} {l : Launch} {d : Nat} {h : sw_H} {t row m k : Nat} {f : Nat → Int32} {u pu b pa ba n : Nat} {p bx : Nat → Int} {sg : Int} {e : Nat → Int}
theorem c_U_spellFactor (S : isY w t row m) (hk : k + 5 ≤ m) {a c : Int} (a1 : 2 ≤ a) (a2 : a ≤ 31) (c1 : -9 ≤ c) (c2 : c ≤ 9) : sw_ct w X l (d + 1) mX10_spellFactor [.int (zI a), .int (zI c), .ref t] (yH h t row f k) (sw_qV w X fun h2 => h2 = yH h t row (appR f k (facZ a c)) (k + (facZ a c).length)) := by
  have S0 := S
  obtain ⟨s1, s2, s3, s4, s5⟩ := S
  have e1 : zI a / zI 10 = zI (a / 10) := by rw [zI_div (by omega) (by omega) (by omega) (by omega), Int.tdiv_eq_ediv_of_nonneg (by omega)]
  have e2 : zI a - zI a / zI 10 * zI 10 = zI (a % 10) := by rw [zI_rem (by omega) (by omega) (by omega) (by omega), Int.tmod_eq_emod_of_nonneg (by omega)]
  have hz : ¬ zI 10 = 0 := by decide
  refine sw_ct_of (by decide +kernel) (Nat.le_of_ble_eq_true rfl) rfl ?_
  refine sw_iload_n 1 dX10_spellFactor_0 rfl rfl rfl ?_
  refine sw_bipush (v := zI 10) 3 dX10_spellFactor_1 rfl (by decide) ?_
  refine sw_icmp_lt 18 6 dX10_spellFactor_3 (by decide) rfl (fun c3 => ?_) (fun c3 => ?_)
  · refine sw_aload_n 19 dX10_spellFactor_18 rfl rfl rfl ?_
    refine sw_bipush (v := zI 48) 21 dX10_spellFactor_19 rfl (by decide) ?_
    refine sw_iload_n 22 dX10_spellFactor_21 rfl rfl rfl ?_
    refine sw_bipush (v := zI 10) 24 dX10_spellFactor_22 rfl (by decide) ?_
    refine sw_irem 25 dX10_spellFactor_24 rfl (by first | assumption | decide) ?_
    rw [e2]
    refine sw_iadd 26 dX10_spellFactor_25 rfl ?_
    rw [zI_add]
    refine sw_invVI 29 dX10_spellFactor_26 rfl lk_RX10_75 (c_Y_add S0 (by omega) _) (by first | assumption | exact ⟨by decide, rfl⟩) rfl rfl (Nat.le_of_ble_eq_true rfl) (fun r26 h26 hq26 => ?_)
    obtain ⟨rfl, rfl⟩ := hq26
    refine sw_pop 30 dX10_spellFactor_29 rfl rfl ?_
    refine sw_iload_n 31 dX10_spellFactor_30 rfl rfl rfl ?_
    refine sw_iconst (v := zI 1) 32 dX10_spellFactor_31 rfl (by decide) ?_
    refine sw_icmp_ne 36 35 dX10_spellFactor_32 (by decide) rfl (fun c32 => ?_) (fun c32 => ?_)
    · refine sw_aload_n 37 dX10_spellFactor_36 rfl rfl rfl ?_
      refine sw_bipush (v := zI 94) 39 dX10_spellFactor_37 rfl (by decide) ?_
      refine sw_invVI 42 dX10_spellFactor_39 rfl lk_RX10_75 (c_Y_add S0 (by omega) _) (by first | assumption | exact ⟨by decide, rfl⟩) rfl rfl (Nat.le_of_ble_eq_true rfl) (fun r39 h39 hq39 => ?_)
      obtain ⟨rfl, rfl⟩ := hq39
      refine sw_pop 43 dX10_spellFactor_42 rfl rfl ?_
      refine sw_iload_n 44 dX10_spellFactor_43 rfl rfl rfl ?_
      refine sw_if_ge 54 47 dX10_spellFactor_44 (by decide) rfl (fun c44 => ?_) (fun c44 => ?_)
      · refine sw_aload_n 55 dX10_spellFactor_54 rfl rfl rfl ?_
        refine sw_bipush (v := zI 48) 57 dX10_spellFactor_55 rfl (by decide) ?_
        refine sw_iload_n 58 dX10_spellFactor_57 rfl rfl rfl ?_
        refine sw_invSI 61 dX10_spellFactor_58 rfl lk_RX10_49 (c_absZ (by omega) (by omega)) rfl rfl (Nat.le_of_ble_eq_true rfl) (fun r58 h58 hq58 => ?_)
        obtain ⟨rfl, rfl⟩ := hq58
        refine sw_iadd 62 dX10_spellFactor_61 rfl ?_
        rw [zI_add]
        refine sw_invVI 65 dX10_spellFactor_62 rfl lk_RX10_75 (c_Y_add S0 (by omega) _) (by first | assumption | exact ⟨by decide, rfl⟩) rfl rfl (Nat.le_of_ble_eq_true rfl) (fun r62 h62 hq62 => ?_)
        obtain ⟨rfl, rfl⟩ := hq62
        refine sw_pop 66 dX10_spellFactor_65 rfl rfl ?_
        exact sw_vret dX10_spellFactor_66 rfl (by
  rw [zI_lt (by omega) (by omega) (by omega) (by omega)] at c3
  rw [zI_eq (by omega) (by omega) (by omega) (by omega)] at c32
  try rw [z0, zI_le (by omega) (by omega) (by omega) (by omega)] at c44
  try simp only [appR_1, appR_2, appR_3, appR_4]
  unfold facZ
  first
  | (rw [if_pos (by omega), if_pos (by omega)]; rfl)
  | (rw [if_neg (by omega), if_pos (by omega)]; rfl)
  | (rw [if_pos (by omega), if_neg (by omega), if_pos (by omega)]; rfl)
  | (rw [if_neg (by omega), if_neg (by omega), if_pos (by omega)]; rfl)
  | (rw [if_pos (by omega), if_neg (by omega), if_neg (by omega)]; rfl)
  | (rw [if_neg (by omega), if_neg (by omega), if_neg (by omega)]; rfl))
      · refine sw_aload_n 48 dX10_spellFactor_47 rfl rfl rfl ?_
        refine sw_bipush (v := zI 45) 50 dX10_spellFactor_48 rfl (by decide) ?_
        refine sw_invVI 53 dX10_spellFactor_50 rfl lk_RX10_75 (c_Y_add S0 (by omega) _) (by first | assumption | exact ⟨by decide, rfl⟩) rfl rfl (Nat.le_of_ble_eq_true rfl) (fun r50 h50 hq50 => ?_)
        obtain ⟨rfl, rfl⟩ := hq50
        refine sw_pop 54 dX10_spellFactor_53 rfl rfl ?_
        refine sw_aload_n 55 dX10_spellFactor_54 rfl rfl rfl ?_
        refine sw_bipush (v := zI 48) 57 dX10_spellFactor_55 rfl (by decide) ?_
        refine sw_iload_n 58 dX10_spellFactor_57 rfl rfl rfl ?_
        refine sw_invSI 61 dX10_spellFactor_58 rfl lk_RX10_49 (c_absZ (by omega) (by omega)) rfl rfl (Nat.le_of_ble_eq_true rfl) (fun r58 h58 hq58 => ?_)
        obtain ⟨rfl, rfl⟩ := hq58
        refine sw_iadd 62 dX10_spellFactor_61 rfl ?_
        rw [zI_add]
        refine sw_invVI 65 dX10_spellFactor_62 rfl lk_RX10_75 (c_Y_add S0 (by omega) _) (by first | assumption | exact ⟨by decide, rfl⟩) rfl rfl (Nat.le_of_ble_eq_true rfl) (fun r62 h62 hq62 => ?_)
        obtain ⟨rfl, rfl⟩ := hq62
        refine sw_pop 66 dX10_spellFactor_65 rfl rfl ?_
        exact sw_vret dX10_spellFactor_66 rfl (by
  rw [zI_lt (by omega) (by omega) (by omega) (by omega)] at c3
  rw [zI_eq (by omega) (by omega) (by omega) (by omega)] at c32
  try rw [z0, zI_le (by omega) (by omega) (by omega) (by omega)] at c44
  try simp only [appR_1, appR_2, appR_3, appR_4]
  unfold facZ
  first
  | (rw [if_pos (by omega), if_pos (by omega)]; rfl)
  | (rw [if_neg (by omega), if_pos (by omega)]; rfl)
  | (rw [if_pos (by omega), if_neg (by omega), if_pos (by omega)]; rfl)
  | (rw [if_neg (by omega), if_neg (by omega), if_pos (by omega)]; rfl)
  | (rw [if_pos (by omega), if_neg (by omega), if_neg (by omega)]; rfl)
  | (rw [if_neg (by omega), if_neg (by omega), if_neg (by omega)]; rfl))
    · exact sw_vret dX10_spellFactor_35 rfl (by
  rw [zI_lt (by omega) (by omega) (by omega) (by omega)] at c3
  rw [zI_eq (by omega) (by omega) (by omega) (by omega)] at c32
  try rw [z0, zI_le (by omega) (by omega) (by omega) (by omega)] at c44
  try simp only [appR_1, appR_2, appR_3, appR_4]
  unfold facZ
  first
  | (rw [if_pos (by omega), if_pos (by omega)]; rfl)
  | (rw [if_neg (by omega), if_pos (by omega)]; rfl)
  | (rw [if_pos (by omega), if_neg (by omega), if_pos (by omega)]; rfl)
  | (rw [if_neg (by omega), if_neg (by omega), if_pos (by omega)]; rfl)
  | (rw [if_pos (by omega), if_neg (by omega), if_neg (by omega)]; rfl)
  | (rw [if_neg (by omega), if_neg (by omega), if_neg (by omega)]; rfl))
  · refine sw_aload_n 7 dX10_spellFactor_6 rfl rfl rfl ?_
    refine sw_bipush (v := zI 48) 9 dX10_spellFactor_7 rfl (by decide) ?_
    refine sw_iload_n 10 dX10_spellFactor_9 rfl rfl rfl ?_
    refine sw_bipush (v := zI 10) 12 dX10_spellFactor_10 rfl (by decide) ?_
    refine sw_idiv 13 dX10_spellFactor_12 rfl (by first | assumption | decide) ?_
    rw [e1]
    refine sw_iadd 14 dX10_spellFactor_13 rfl ?_
    rw [zI_add]
    refine sw_invVI 17 dX10_spellFactor_14 rfl lk_RX10_75 (c_Y_add S0 (by omega) _) (by first | assumption | exact ⟨by decide, rfl⟩) rfl rfl (Nat.le_of_ble_eq_true rfl) (fun r14 h14 hq14 => ?_)
    obtain ⟨rfl, rfl⟩ := hq14
    refine sw_pop 18 dX10_spellFactor_17 rfl rfl ?_
    refine sw_aload_n 19 dX10_spellFactor_18 rfl rfl rfl ?_
    refine sw_bipush (v := zI 48) 21 dX10_spellFactor_19 rfl (by decide) ?_
    refine sw_iload_n 22 dX10_spellFactor_21 rfl rfl rfl ?_
    refine sw_bipush (v := zI 10) 24 dX10_spellFactor_22 rfl (by decide) ?_
    refine sw_irem 25 dX10_spellFactor_24 rfl (by first | assumption | decide) ?_
    rw [e2]
    refine sw_iadd 26 dX10_spellFactor_25 rfl ?_
    rw [zI_add]
    refine sw_invVI 29 dX10_spellFactor_26 rfl lk_RX10_75 (c_Y_add S0 (by omega) _) (by first | assumption | exact ⟨by decide, rfl⟩) rfl rfl (Nat.le_of_ble_eq_true rfl) (fun r26 h26 hq26 => ?_)
    obtain ⟨rfl, rfl⟩ := hq26
    refine sw_pop 30 dX10_spellFactor_29 rfl rfl ?_
    refine sw_iload_n 31 dX10_spellFactor_30 rfl rfl rfl ?_
    refine sw_iconst (v := zI 1) 32 dX10_spellFactor_31 rfl (by decide) ?_
    refine sw_icmp_ne 36 35 dX10_spellFactor_32 (by decide) rfl (fun c32 => ?_) (fun c32 => ?_)
    · refine sw_aload_n 37 dX10_spellFactor_36 rfl rfl rfl ?_
      refine sw_bipush (v := zI 94) 39 dX10_spellFactor_37 rfl (by decide) ?_
      refine sw_invVI 42 dX10_spellFactor_39 rfl lk_RX10_75 (c_Y_add S0 (by omega) _) (by first | assumption | exact ⟨by decide, rfl⟩) rfl rfl (Nat.le_of_ble_eq_true rfl) (fun r39 h39 hq39 => ?_)
      obtain ⟨rfl, rfl⟩ := hq39
      refine sw_pop 43 dX10_spellFactor_42 rfl rfl ?_
      refine sw_iload_n 44 dX10_spellFactor_43 rfl rfl rfl ?_
      refine sw_if_ge 54 47 dX10_spellFactor_44 (by decide) rfl (fun c44 => ?_) (fun c44 => ?_)
      · refine sw_aload_n 55 dX10_spellFactor_54 rfl rfl rfl ?_
        refine sw_bipush (v := zI 48) 57 dX10_spellFactor_55 rfl (by decide) ?_
        refine sw_iload_n 58 dX10_spellFactor_57 rfl rfl rfl ?_
        refine sw_invSI 61 dX10_spellFactor_58 rfl lk_RX10_49 (c_absZ (by omega) (by omega)) rfl rfl (Nat.le_of_ble_eq_true rfl) (fun r58 h58 hq58 => ?_)
        obtain ⟨rfl, rfl⟩ := hq58
        refine sw_iadd 62 dX10_spellFactor_61 rfl ?_
        rw [zI_add]
        refine sw_invVI 65 dX10_spellFactor_62 rfl lk_RX10_75 (c_Y_add S0 (by omega) _) (by first | assumption | exact ⟨by decide, rfl⟩) rfl rfl (Nat.le_of_ble_eq_true rfl) (fun r62 h62 hq62 => ?_)
        obtain ⟨rfl, rfl⟩ := hq62
        refine sw_pop 66 dX10_spellFactor_65 rfl rfl ?_
        exact sw_vret dX10_spellFactor_66 rfl (by
  rw [zI_lt (by omega) (by omega) (by omega) (by omega)] at c3
  rw [zI_eq (by omega) (by omega) (by omega) (by omega)] at c32
  try rw [z0, zI_le (by omega) (by omega) (by omega) (by omega)] at c44
  try simp only [appR_1, appR_2, appR_3, appR_4]
  unfold facZ
  first
  | (rw [if_pos (by omega), if_pos (by omega)]; rfl)
  | (rw [if_neg (by omega), if_pos (by omega)]; rfl)
  | (rw [if_pos (by omega), if_neg (by omega), if_pos (by omega)]; rfl)
  | (rw [if_neg (by omega), if_neg (by omega), if_pos (by omega)]; rfl)
  | (rw [if_pos (by omega), if_neg (by omega), if_neg (by omega)]; rfl)
  | (rw [if_neg (by omega), if_neg (by omega), if_neg (by omega)]; rfl))
      · refine sw_aload_n 48 dX10_spellFactor_47 rfl rfl rfl ?_
        refine sw_bipush (v := zI 45) 50 dX10_spellFactor_48 rfl (by decide) ?_
        refine sw_invVI 53 dX10_spellFactor_50 rfl lk_RX10_75 (c_Y_add S0 (by omega) _) (by first | assumption | exact ⟨by decide, rfl⟩) rfl rfl (Nat.le_of_ble_eq_true rfl) (fun r50 h50 hq50 => ?_)
        obtain ⟨rfl, rfl⟩ := hq50
        refine sw_pop 54 dX10_spellFactor_53 rfl rfl ?_
        refine sw_aload_n 55 dX10_spellFactor_54 rfl rfl rfl ?_
        refine sw_bipush (v := zI 48) 57 dX10_spellFactor_55 rfl (by decide) ?_
        refine sw_iload_n 58 dX10_spellFactor_57 rfl rfl rfl ?_
        refine sw_invSI 61 dX10_spellFactor_58 rfl lk_RX10_49 (c_absZ (by omega) (by omega)) rfl rfl (Nat.le_of_ble_eq_true rfl) (fun r58 h58 hq58 => ?_)
        obtain ⟨rfl, rfl⟩ := hq58
        refine sw_iadd 62 dX10_spellFactor_61 rfl ?_
        rw [zI_add]
        refine sw_invVI 65 dX10_spellFactor_62 rfl lk_RX10_75 (c_Y_add S0 (by omega) _) (by first | assumption | exact ⟨by decide, rfl⟩) rfl rfl (Nat.le_of_ble_eq_true rfl) (fun r62 h62 hq62 => ?_)
        obtain ⟨rfl, rfl⟩ := hq62
        refine sw_pop 66 dX10_spellFactor_65 rfl rfl ?_
        exact sw_vret dX10_spellFactor_66 rfl (by
  rw [zI_lt (by omega) (by omega) (by omega) (by omega)] at c3
  rw [zI_eq (by omega) (by omega) (by omega) (by omega)] at c32
  try rw [z0, zI_le (by omega) (by omega) (by omega) (by omega)] at c44
  try simp only [appR_1, appR_2, appR_3, appR_4]
  unfold facZ
  first
  | (rw [if_pos (by omega), if_pos (by omega)]; rfl)
  | (rw [if_neg (by omega), if_pos (by omega)]; rfl)
  | (rw [if_pos (by omega), if_neg (by omega), if_pos (by omega)]; rfl)
  | (rw [if_neg (by omega), if_neg (by omega), if_pos (by omega)]; rfl)
  | (rw [if_pos (by omega), if_neg (by omega), if_neg (by omega)]; rfl)
  | (rw [if_neg (by omega), if_neg (by omega), if_neg (by omega)]; rfl))
    · exact sw_vret dX10_spellFactor_35 rfl (by
  rw [zI_lt (by omega) (by omega) (by omega) (by omega)] at c3
  rw [zI_eq (by omega) (by omega) (by omega) (by omega)] at c32
  try rw [z0, zI_le (by omega) (by omega) (by omega) (by omega)] at c44
  try simp only [appR_1, appR_2, appR_3, appR_4]
  unfold facZ
  first
  | (rw [if_pos (by omega), if_pos (by omega)]; rfl)
  | (rw [if_neg (by omega), if_pos (by omega)]; rfl)
  | (rw [if_pos (by omega), if_neg (by omega), if_pos (by omega)]; rfl)
  | (rw [if_neg (by omega), if_neg (by omega), if_pos (by omega)]; rfl)
  | (rw [if_pos (by omega), if_neg (by omega), if_neg (by omega)]; rfl)
  | (rw [if_neg (by omega), if_neg (by omega), if_neg (by omega)]; rfl))
/-- spell: all of it, in the Bytes t -/
theorem c_U_spell (S : isU w u pu) (SB : isB w b pa ba) (SY : isY w t row m) (V : atB h b pa ba n p bx) (VU : ∀ i, i < n → h.1 pu i = zI (e i) ∧ -9 ≤ e i ∧ e i ≤ 9) (hs : h.1 u 1 = zI sg) (hs2 : sg = 1 ∨ sg = -1) (hm : 26 ≤ m) {k0 : Nat} (hk0 : h.1 t 1 = zI k0)
    (n1 : u ≠ t) (n2 : u ≠ row) (n3 : pu ≠ t) (n4 : pu ≠ row) (n5 : b ≠ t) (n6 : b ≠ row) (n7 : pa ≠ t) (n8 : pa ≠ row) :
    sw_ct w X l (d + 2) mX10_spell [.ref u, .ref b, .ref t] h (sw_qV w X fun h2 => h2 = yH h t row (appR (h.1 row) 0 (spellZ sg p e n)) (spellZ sg p e n).length) := by
  have S0 := SY
  obtain ⟨s1, s2, s3, s4⟩ := S
  obtain ⟨q1, q2, q3, q4, q5, q6, q7, q8⟩ := SB
  obtain ⟨t1, t2, t3, t4, t5⟩ := SY
  obtain ⟨v3, v4, v5, v6⟩ := V
  refine sw_ct_of (by decide +kernel) (Nat.le_of_ble_eq_true rfl) rfl ?_
  have loop : ∀ (m9 j : Nat) (φ : Bool) (L : List Int), j + m9 = n → L.length ≤ 1 + 6 * j → sw_wp w X l (d + 2) mX10_spell (sw_qV w X fun h2 => h2 = yH h t row (appR (h.1 row) 0 (L ++ (bodyZ p e m9 j φ ++ (if firstZ e m9 j φ then [49] else [])))) (L ++ (bodyZ p e m9 j φ ++ (if firstZ e m9 j φ then [49] else []))).length) 23 [(0, .ref u), (1, .ref b), (2, .ref t), (3, .int (zI (if φ then 1 else 0))), (4, .int (zI j))] [] (yH h t row (appR (h.1 row) 0 L) L.length) := by
    intro m9
    induction m9 with
    | zero =>
      intro j φ L hj hL
      have : j = n := by omega
      subst this
      rw [show bodyZ p e 0 j φ = [] from rfl, show firstZ e 0 j φ = φ from rfl]
      have a1 := appR_app (h.1 row) 0 L [49]
      rw [Nat.zero_add] at a1
      cases φ with
      | true =>
        refine sw_iload 25 dX10_spell_23 rfl rfl ?_
        refine sw_aload_n 26 dX10_spell_25 rfl rfl rfl ?_
        refine sw_getI 29 dX10_spell_26 rfl gf_RX10_41 rfl (by first | assumption | exact ⟨by decide, rfl⟩) ?_
        rw [yH_other n5 n6, v3]
        refine sw_icmp_ge 82 32 dX10_spell_29 (by decide) rfl (fun c29 => ?_) (fun c29 => ?_)
        · refine sw_iload_n 83 dX10_spell_82 rfl rfl rfl ?_
          refine sw_if_eq 93 86 dX10_spell_83 (by decide) rfl (fun c83 => ?_) (fun c83 => ?_)
          · exact absurd c83 (by decide)
          · refine sw_aload_n 87 dX10_spell_86 rfl rfl rfl ?_
            refine sw_bipush (v := zI 49) 89 dX10_spell_87 rfl (by decide) ?_
            refine sw_invVI 92 dX10_spell_89 rfl lk_RX10_75 (c_Y_add S0 (by omega) _) (by first | assumption | exact ⟨by decide, rfl⟩) rfl rfl (Nat.le_of_ble_eq_true rfl) (fun r89 h89 hq89 => ?_)
            obtain ⟨rfl, rfl⟩ := hq89
            refine sw_pop 93 dX10_spell_92 rfl rfl ?_
            exact sw_vret dX10_spell_93 rfl (by rw [a1]; simp)
        · exact absurd (Int32.le_refl _) c29
      | false =>
        refine sw_iload 25 dX10_spell_23 rfl rfl ?_
        refine sw_aload_n 26 dX10_spell_25 rfl rfl rfl ?_
        refine sw_getI 29 dX10_spell_26 rfl gf_RX10_41 rfl (by first | assumption | exact ⟨by decide, rfl⟩) ?_
        rw [yH_other n5 n6, v3]
        refine sw_icmp_ge 82 32 dX10_spell_29 (by decide) rfl (fun c29 => ?_) (fun c29 => ?_)
        · refine sw_iload_n 83 dX10_spell_82 rfl rfl rfl ?_
          refine sw_if_eq 93 86 dX10_spell_83 (by decide) rfl (fun c83 => ?_) (fun c83 => ?_)
          · exact sw_vret dX10_spell_93 rfl (by simp)
          · exact absurd (show zI (if false = true then 1 else 0) = 0 from rfl) c83
        · exact absurd (Int32.le_refl _) c29
    | succ m9 ih =>
      intro j φ L hj hL
      have hv := VU j (by omega)
      have hp := v5 j (by omega)
      have hin : vp_in (zI j) 4 := zI_inN (by omega) (by omega)
      have eb : bodyZ p e (m9 + 1) j φ = if e j = 0 then bodyZ p e m9 (j + 1) φ else (if φ then [] else [42]) ++ (facZ (p j) (e j) ++ bodyZ p e m9 (j + 1) false) := rfl
      have ef : firstZ e (m9 + 1) j φ = if e j = 0 then firstZ e m9 (j + 1) φ else firstZ e m9 (j + 1) false := rfl
      have hfl := facZ_len (p j) (e j)
      refine sw_iload 25 dX10_spell_23 rfl rfl ?_
      refine sw_aload_n 26 dX10_spell_25 rfl rfl rfl ?_
      refine sw_getI 29 dX10_spell_26 rfl gf_RX10_41 rfl (by first | assumption | exact ⟨by decide, rfl⟩) ?_
      rw [yH_other n5 n6, v3]
      refine sw_icmp_ge 82 32 dX10_spell_29 (by decide) rfl (fun c29 => ?_) (fun c29 => ?_)
      · exact absurd c29 (by rw [zI_le (by omega) (by omega) (by omega) (by omega)]; omega)
      · refine sw_aload_n 33 dX10_spell_32 rfl rfl rfl ?_
        refine sw_getR 36 dX10_spell_33 rfl gf_RX10_9 (fun _ _ _ _ => rfl) (by first | assumption | exact ⟨by decide, rfl⟩) (by first | assumption | rfl) ?_
        refine sw_iload 38 dX10_spell_36 rfl rfl ?_
        refine sw_iald 39 dX10_spell_38 rfl (by first | assumption | exact ⟨by decide, rfl⟩) (by assumption) ?_
        rw [zI_clampN (by omega), yH_other n3 n4, hv.1]
        refine sw_if_ne 45 42 dX10_spell_39 (by decide) rfl (fun c39 => ?_) (fun c39 => ?_)
        · rw [z0, zI_eq (by omega) (by omega) (by omega) (by omega)] at c39
          rw [eb, ef, if_neg c39, if_neg c39]
          refine sw_iload_n 46 dX10_spell_45 rfl rfl rfl ?_
          refine sw_if_ne 56 49 dX10_spell_46 (by decide) rfl (fun c46 => ?_) (fun c46 => ?_)
          · refine sw_iconst (v := zI 0) 57 dX10_spell_56 rfl (by decide) ?_
            refine sw_istore_n (lc' := [(0, _), (1, _), (2, _), (3, _), (4, _)]) 58 dX10_spell_57 rfl rfl (by decide) rfl ?_
            refine sw_aload_n 59 dX10_spell_58 rfl rfl rfl ?_
            refine sw_getR 62 dX10_spell_59 rfl gf_RX10_46 (fun _ _ _ _ => rfl) (by first | assumption | exact ⟨by decide, rfl⟩) (by first | assumption | rfl) ?_
            refine sw_iload 64 dX10_spell_62 rfl rfl ?_
            refine sw_iald 65 dX10_spell_64 rfl (by first | assumption | exact ⟨by decide, rfl⟩) (by assumption) ?_
            rw [zI_clampN (by omega), yH_other n7 n8, hp.1]
            refine sw_aload_n 66 dX10_spell_65 rfl rfl rfl ?_
            refine sw_getR 69 dX10_spell_66 rfl gf_RX10_9 (fun _ _ _ _ => rfl) (by first | assumption | exact ⟨by decide, rfl⟩) (by first | assumption | rfl) ?_
            refine sw_iload 71 dX10_spell_69 rfl rfl ?_
            refine sw_iald 72 dX10_spell_71 rfl (by first | assumption | exact ⟨by decide, rfl⟩) (by assumption) ?_
            rw [zI_clampN (by omega), yH_other n3 n4, hv.1]
            refine sw_aload_n 73 dX10_spell_72 rfl rfl rfl ?_
            refine sw_invSV 76 dX10_spell_73 rfl lk_RX10_79 (c_U_spellFactor S0 (by omega) hp.2.1 hp.2.2 hv.2.1 hv.2.2) rfl rfl (Nat.le_of_ble_eq_true rfl) (fun h73 hq73 => ?_)
            subst hq73
            refine sw_iinc (v := zI 1) (lc' := [(0, _), (1, _), (2, _), (3, _), (4, _)]) 79 dX10_spell_76 rfl (by decide) rfl rfl rfl ?_
            refine sw_goto 23 dX10_spell_79 (by decide) ?_
            rw [zI_add]
            have hφ : φ = true := by
              cases φ with
              | true => rfl
              | false => exact absurd (show zI (if false = true then 1 else 0) = 0 from rfl) c46
            subst hφ
            have a1 := appR_app (h.1 row) 0 L (facZ (p j) (e j))
            rw [Nat.zero_add] at a1
            rw [a1]
            have i1 := ih (j + 1) false (L ++ facZ (p j) (e j)) (by omega) (by simp; omega)
            simp only [List.append_assoc, List.length_append] at i1
            simp only [List.append_assoc, List.length_append, if_true, List.nil_append]
            exact i1
          · have hφ : φ = false := by
              cases φ with
              | true => exact absurd c46 (by decide)
              | false => rfl
            subst hφ
            refine sw_aload_n 50 dX10_spell_49 rfl rfl rfl ?_
            refine sw_bipush (v := zI 42) 52 dX10_spell_50 rfl (by decide) ?_
            refine sw_invVI 55 dX10_spell_52 rfl lk_RX10_75 (c_Y_add S0 (by omega) _) (by first | assumption | exact ⟨by decide, rfl⟩) rfl rfl (Nat.le_of_ble_eq_true rfl) (fun r52 h52 hq52 => ?_)
            obtain ⟨rfl, rfl⟩ := hq52
            refine sw_pop 56 dX10_spell_55 rfl rfl ?_
            refine sw_iconst (v := zI 0) 57 dX10_spell_56 rfl (by decide) ?_
            refine sw_istore_n (lc' := [(0, _), (1, _), (2, _), (3, _), (4, _)]) 58 dX10_spell_57 rfl rfl (by decide) rfl ?_
            refine sw_aload_n 59 dX10_spell_58 rfl rfl rfl ?_
            refine sw_getR 62 dX10_spell_59 rfl gf_RX10_46 (fun _ _ _ _ => rfl) (by first | assumption | exact ⟨by decide, rfl⟩) (by first | assumption | rfl) ?_
            refine sw_iload 64 dX10_spell_62 rfl rfl ?_
            refine sw_iald 65 dX10_spell_64 rfl (by first | assumption | exact ⟨by decide, rfl⟩) (by assumption) ?_
            rw [zI_clampN (by omega), yH_other n7 n8, hp.1]
            refine sw_aload_n 66 dX10_spell_65 rfl rfl rfl ?_
            refine sw_getR 69 dX10_spell_66 rfl gf_RX10_9 (fun _ _ _ _ => rfl) (by first | assumption | exact ⟨by decide, rfl⟩) (by first | assumption | rfl) ?_
            refine sw_iload 71 dX10_spell_69 rfl rfl ?_
            refine sw_iald 72 dX10_spell_71 rfl (by first | assumption | exact ⟨by decide, rfl⟩) (by assumption) ?_
            rw [zI_clampN (by omega), yH_other n3 n4, hv.1]
            refine sw_aload_n 73 dX10_spell_72 rfl rfl rfl ?_
            refine sw_invSV 76 dX10_spell_73 rfl lk_RX10_79 (c_U_spellFactor S0 (by omega) hp.2.1 hp.2.2 hv.2.1 hv.2.2) rfl rfl (Nat.le_of_ble_eq_true rfl) (fun h73 hq73 => ?_)
            subst hq73
            refine sw_iinc (v := zI 1) (lc' := [(0, _), (1, _), (2, _), (3, _), (4, _)]) 79 dX10_spell_76 rfl (by decide) rfl rfl rfl ?_
            refine sw_goto 23 dX10_spell_79 (by decide) ?_
            rw [zI_add]
            have a1 := appR_app (h.1 row) 0 L (42 :: facZ (p j) (e j))
            rw [Nat.zero_add] at a1
            rw [appR_1, a1]
            have i1 := ih (j + 1) false (L ++ 42 :: facZ (p j) (e j)) (by omega) (by simp; omega)
            simp only [List.append_assoc, List.cons_append, List.length_append, List.length_cons] at i1
            simp only [List.append_assoc, List.cons_append, List.length_append, List.length_cons, Bool.false_eq_true, if_false, List.nil_append, List.singleton_append]
            rw [show L.length + 1 + (facZ (p j) (e j)).length = L.length + ((facZ (p j) (e j)).length + 1) by omega]
            exact i1
        · rw [z0, zI_eq (by omega) (by omega) (by omega) (by omega)] at c39
          rw [eb, ef, if_pos c39, if_pos c39]
          refine sw_goto 76 dX10_spell_42 (by decide) ?_
          refine sw_iinc (v := zI 1) (lc' := [(0, _), (1, _), (2, _), (3, _), (4, _)]) 79 dX10_spell_76 rfl (by decide) rfl rfl rfl ?_
          refine sw_goto 23 dX10_spell_79 (by decide) ?_
          rw [zI_add]
          exact ih (j + 1) φ L (by omega) (by omega)
  have h0 := yH_self (h := h) S0 hk0
  rw [h0]
  refine sw_aload_n 1 dX10_spell_0 rfl rfl rfl ?_
  refine sw_invVV 4 dX10_spell_1 rfl lk_RX10_70 (c_Y_clear S0) (by first | assumption | exact ⟨by decide, rfl⟩) rfl rfl (Nat.le_of_ble_eq_true rfl) (fun h1 hq1 => ?_)
  subst hq1
  refine sw_aload_n 5 dX10_spell_4 rfl rfl rfl ?_
  refine sw_getI 8 dX10_spell_5 rfl gf_RX10_15 rfl (by first | assumption | exact ⟨by decide, rfl⟩) ?_
  rw [yH_other n1 n2, hs]
  refine sw_if_ge 18 11 dX10_spell_8 (by decide) rfl (fun c8 => ?_) (fun c8 => ?_)
  · refine sw_iconst (v := zI 1) 19 dX10_spell_18 rfl (by decide) ?_
    refine sw_istore_n (lc' := [(0, _), (1, _), (2, _), (3, _)]) 20 dX10_spell_19 rfl rfl (by decide) rfl ?_
    refine sw_iconst (v := zI 0) 21 dX10_spell_20 rfl (by decide) ?_
    refine sw_istore (lc' := [(0, _), (1, _), (2, _), (3, _), (4, _)]) 23 dX10_spell_21 rfl (by decide) rfl ?_
    have e9 := loop n 0 true [] (by omega) (by simp)
    rw [appR_nil] at e9
    rw [z0, zI_le (by omega) (by omega) (by omega) (by omega)] at c8
    unfold spellZ
    rw [if_neg (by omega), ← h0]
    exact e9
  · refine sw_aload_n 12 dX10_spell_11 rfl rfl rfl ?_
    refine sw_bipush (v := zI 45) 14 dX10_spell_12 rfl (by decide) ?_
    refine sw_invVI 17 dX10_spell_14 rfl lk_RX10_75 (c_Y_add S0 (by omega) _) (by first | assumption | exact ⟨by decide, rfl⟩) rfl rfl (Nat.le_of_ble_eq_true rfl) (fun r14 h14 hq14 => ?_)
    obtain ⟨rfl, rfl⟩ := hq14
    refine sw_pop 18 dX10_spell_17 rfl rfl ?_
    refine sw_iconst (v := zI 1) 19 dX10_spell_18 rfl (by decide) ?_
    refine sw_istore_n (lc' := [(0, _), (1, _), (2, _), (3, _)]) 20 dX10_spell_19 rfl rfl (by decide) rfl ?_
    refine sw_iconst (v := zI 0) 21 dX10_spell_20 rfl (by decide) ?_
    refine sw_istore (lc' := [(0, _), (1, _), (2, _), (3, _), (4, _)]) 23 dX10_spell_21 rfl (by decide) rfl ?_
    have e9 := loop n 0 true [45] (by omega) (by simp)
    rw [z0, zI_le (by omega) (by omega) (by omega) (by omega)] at c8
    unfold spellZ
    rw [if_pos (by omega), ← h0]
    exact e9
end sw_spell
