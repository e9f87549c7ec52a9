/-! THE CLASS'S CALLS, 7: film, judge, lots -/
def nxS (x : Int32) : Int32 := x * zI 1103515245 + zI 12345
def itS : Nat → Int32 → Int32
  | 0, x => x
  | k + 1, x => nxS (itS k x)
def drZ (x : Int32) (m : Int) : Int := ((x &&& zI 2147483647).toInt / 65536) % m
def lotE (bx : Nat → Int) (x : Int32) (i : Nat) : Int := drZ (itS (i + 1) x) (2 * bx i + 1) - bx i
def lotG (n : Nat) (x : Int32) : Int := if drZ (itS (n + 1) x) 2 = 1 then -1 else 1
def lotA (σ : SgZ) (x : Int32) : Int := lotG σ.1.1.1 x * sideZ σ.1.1.2.1 (lotE σ.1.1.2.2 x) 1 σ.1.1.1
def lotB (σ : SgZ) (x : Int32) : Int := sideZ σ.1.1.2.1 (lotE σ.1.1.2.2 x) (-1) σ.1.1.1
def sdS (n : Nat) : Nat → Int32 → Int32
  | 0, x => x
  | k + 1, x => itS (n + 1) (sdS n k x)
def lotsN (T : TbZ) (σ : SgZ) (z : Int32) : Nat → Nat
  | 0 => 0
  | k + 1 => lotsN T σ z k + if 0 ≤ whT T (lotA σ (sdS σ.1.1.1 k z)) (lotB σ (sdS σ.1.1.1 k z)) then 1 else 0
def opLots (T : TbZ) (σ : SgZ) (n : Int) (z : Int32) : Int := if n < 1 ∨ 50 < n then -2 else lotsN T σ z n.toNat
theorem lotsN_le (T : TbZ) (σ : SgZ) (z : Int32) : ∀ k, lotsN T σ z k ≤ k
  | 0 => Nat.le_refl 0
  | k + 1 => by have := lotsN_le T σ z k; unfold lotsN; split <;> omega
theorem and_nonneg (x : Int32) : 0 ≤ (x &&& zI 2147483647).toInt := by
  have key : ∀ z : Int32, z.toBitVec.msb = false → 0 ≤ z.toInt := by
    intro z hz
    rw [BitVec.msb_eq_toInt] at hz
    have : 0 ≤ z.toBitVec.toInt := by simpa using hz
    exact this
  refine key _ ?_
  rw [Int32.toBitVec_and, BitVec.msb_and, show (zI 2147483647).toBitVec.msb = false from by decide, Bool.and_false]
theorem drZ_b (x : Int32) {m : Int} (hm : 0 < m) : 0 ≤ drZ x m ∧ drZ x m < m := ⟨Int.emod_nonneg _ (by omega), Int.emod_lt_of_pos _ hm⟩
theorem wLI {g : sw_H} {b j a k : Nat} {F : Nat → Int64} {v : Int64} {x : Int32} : sw_wL (sw_wI (sw_pL g b F) a k x) b j v = sw_wI (sw_pL g b (va_up F j v)) a k x := by rw [← sw_wL_pL]; rfl
section sw_ops7
variable {X : sw_X} {l : Launch} {d : Nat} {h : sw_H} {σ : SgZ}
theorem c_nextSeed {w : sw_W} (x : Int32) : sw_ct w X l d mX11_nextSeed [.int x] h (sw_qI w X fun r h2 => h2 = h ∧ r = nxS x) := by
  refine sw_ct_of (by decide +kernel) (Nat.le_of_ble_eq_true rfl) rfl ?_
  refine sw_iload_n 1 dX11_nextSeed_0 rfl rfl rfl ?_
  refine sw_ldcw 4 dX11_nextSeed_1 rfl (show Cond.constant RX11 336 (zI (1103515245)) ∈ sw_big from kk_RX11_336) ?_
  refine sw_imul 5 dX11_nextSeed_4 rfl ?_
  refine sw_sipush (v := zI 12345) 8 dX11_nextSeed_5 rfl (by decide) ?_
  refine sw_iadd 9 dX11_nextSeed_8 rfl ?_
  exact sw_iret dX11_nextSeed_9 rfl (⟨rfl, rfl⟩)
theorem c_draw {w : sw_W} (x : Int32) {m : Int} (m1 : 1 ≤ m) (m2 : m ≤ 100) : sw_ct w X l d mX11_draw [.int x, .int (zI m)] h (sw_qI w X fun r h2 => h2 = h ∧ r = zI (drZ x m)) := by
  have h0 := and_nonneg x
  have h1 := (x &&& zI 2147483647).toInt_lt
  have e0 : (x &&& zI 2147483647) = zI (x &&& zI 2147483647).toInt := (Int32.ofInt_toInt _).symm
  have hz : ¬ zI m = 0 := by rw [z0, zI_eq (by omega) (by omega) (by omega) (by omega)]; omega
  have hq0 : 0 ≤ (x &&& zI 2147483647).toInt / 65536 := Int.ediv_nonneg h0 (by decide)
  have hq1 : (x &&& zI 2147483647).toInt / 65536 ≤ (x &&& zI 2147483647).toInt := Int.ediv_le_self _ h0
  refine sw_ct_of (by decide +kernel) (Nat.le_of_ble_eq_true rfl) rfl ?_
  refine sw_iload_n 1 dX11_draw_0 rfl rfl rfl ?_
  refine sw_iconst (v := zI 1) 2 dX11_draw_1 rfl (by decide) ?_
  refine sw_icmp_ge 9 5 dX11_draw_2 (by decide) rfl (fun c2 => ?_) (fun c2 => ?_)
  · refine sw_iload_n 10 dX11_draw_9 rfl rfl rfl ?_
    refine sw_ldcw 13 dX11_draw_10 rfl (show Cond.constant RX11 337 (zI (2147483647)) ∈ sw_big from kk_RX11_337) ?_
    refine sw_iand 14 dX11_draw_13 rfl ?_
    rw [e0]
    refine sw_ldcw 17 dX11_draw_14 rfl (show Cond.constant RX11 338 (zI (65536)) ∈ sw_big from kk_RX11_338) ?_
    refine sw_idiv 18 dX11_draw_17 rfl (by first | assumption | decide) ?_
    rw [zI_div (by omega) (by omega) (by omega) (by omega), Int.tdiv_eq_ediv_of_nonneg h0]
    refine sw_iload_n 19 dX11_draw_18 rfl rfl rfl ?_
    refine sw_irem 20 dX11_draw_19 rfl (by first | assumption | decide) ?_
    exact sw_iret dX11_draw_20 rfl (⟨rfl, by rw [zI_rem (by omega) (by omega) (by omega) (by omega), Int.tmod_eq_emod_of_nonneg hq0]; rfl⟩)
  · exact absurd (by rw [zI_le (by omega) (by omega) (by omega) (by omega)]; omega) c2
theorem film_loop {g : sw_H} {a m L : Nat} (I2 : IA g σ) (t1 : tblA g (tabS σ)) (ha : a < 3) (hm : m < (tabS σ).1) (hL : min 10 ((tabS σ).1 - (m : Int)) = (L : Nat)) : ∀ (c n : Nat) (F : Nat → Int64), n + c = L → (∀ k, k < 2 * n → F k = tolR (tabS σ) m k) → sw_wp wA X l (d + 10) mX11_film (sw_qI wA X fun r h2 => IA h2 (opFilm (tabS σ) σ (a : Nat) (m : Nat)).2 ∧ r = zI (opFilm (tabS σ) σ (a : Nat) (m : Nat)).1) 50 [(0, .ref 0), (1, .int (zI a)), (2, .int (zI m)), (3, .ref 31), (4, .int (zI L)), (5, .int (zI n))] [] (sw_wI (sw_pL g (72 + a) F) 75 a (zI (2 * L))) := by
  have hN := t1.2.1.1
  have hin1 := zI_inN (a := a) (n := 3) ha (by decide)
  have hrf := rf_list ha
  have hsh := sh_list ha
  intro c
  induction c with
  | zero =>
    intro n F hn hF
    have : n = L := by omega
    subst this
    refine sw_iload 52 dX11_film_50 rfl rfl ?_
    refine sw_iload 54 dX11_film_52 rfl rfl ?_
    refine sw_icmp_ge 111 57 dX11_film_54 (by decide) rfl (fun c54 => ?_) (fun c54 => ?_)
    · refine sw_iload 113 dX11_film_111 rfl rfl ?_
      exact sw_iret dX11_film_113 rfl (by
  unfold opFilm; rw [if_pos ⟨by omega, by omega⟩, hL]
  exact ⟨IA_ls I2 ha (fun k hk => hF k (by omega)), rfl⟩)
    · exact absurd (Int32.le_refl _) c54
  | succ c ih =>
    intro n F hn hF
    have e1 : zI 2 * zI n = zI ((2 * n : Nat) : Int) := by rw [zI_mul]; rfl
    have e2 : zI ((2 * n : Nat) : Int) + zI 1 = zI ((2 * n + 1 : Nat) : Int) := by rw [zI_add]; rfl
    have e3 : zI m + zI n = zI ((m + n : Nat) : Int) := by rw [zI_add]; rfl
    have hin2 := zI_inN (a := 2 * n) (n := 20) (by omega) (by decide)
    have hin3 := zI_inN (a := 2 * n + 1) (n := 20) (by omega) (by decide)
    have hin4 := zI_inN (a := m + n) (n := 264) (by omega) (by decide)
    have tm := t1.2.2 (m + n) (by omega)
    refine sw_iload 52 dX11_film_50 rfl rfl ?_
    refine sw_iload 54 dX11_film_52 rfl rfl ?_
    refine sw_icmp_ge 111 57 dX11_film_54 (by decide) rfl (fun c54 => ?_) (fun c54 => ?_)
    · exact absurd c54 (by rw [zI_le (by omega) (by omega) (by omega) (by omega)]; omega)
    · refine sw_aload_n 58 dX11_film_57 rfl rfl rfl ?_
      refine sw_getR (b := 70) 61 dX11_film_58 rfl gf_RX11_78 (fun _ _ _ _ => rfl) ⟨by decide, rfl⟩ rfl ?_
      refine sw_getR (b := 71) 64 dX11_film_61 rfl gf_RX11_312 (fun _ _ _ _ => rfl) ⟨by decide, rfl⟩ rfl ?_
      refine sw_iload_n 65 dX11_film_64 rfl rfl rfl ?_
      refine sw_aald (b := (72 + a)) (t := 3) 66 dX11_film_65 rfl ⟨by decide, rfl⟩ (by decide) (by assumption) (by first | assumption | rfl) ?_
      refine sw_iconst (v := zI 2) 67 dX11_film_66 rfl (by decide) ?_
      refine sw_iload 69 dX11_film_67 rfl rfl ?_
      refine sw_imul 70 dX11_film_69 rfl ?_
      rw [e1]
      refine sw_aload_n 71 dX11_film_70 rfl rfl rfl ?_
      refine sw_getR (b := 32) 74 dX11_film_71 rfl gf_RX11_192 (fun _ _ _ _ => rfl) ⟨by decide, rfl⟩ rfl ?_
      refine sw_iload_n 75 dX11_film_74 rfl rfl rfl ?_
      refine sw_iload 77 dX11_film_75 rfl rfl ?_
      refine sw_iadd 78 dX11_film_77 rfl ?_
      rw [e3]
      refine sw_lald 79 dX11_film_78 rfl ⟨by decide, rfl⟩ (by assumption) ?_
      refine sw_last 80 dX11_film_79 rfl (by first | assumption | exact ⟨by decide, rfl⟩) (by assumption) ?_
      refine sw_aload_n 81 dX11_film_80 rfl rfl rfl ?_
      refine sw_getR (b := 70) 84 dX11_film_81 rfl gf_RX11_78 (fun _ _ _ _ => rfl) ⟨by decide, rfl⟩ rfl ?_
      refine sw_getR (b := 71) 87 dX11_film_84 rfl gf_RX11_312 (fun _ _ _ _ => rfl) ⟨by decide, rfl⟩ rfl ?_
      refine sw_iload_n 88 dX11_film_87 rfl rfl rfl ?_
      refine sw_aald (b := (72 + a)) (t := 3) 89 dX11_film_88 rfl ⟨by decide, rfl⟩ (by decide) (by assumption) (by first | assumption | rfl) ?_
      refine sw_iconst (v := zI 2) 90 dX11_film_89 rfl (by decide) ?_
      refine sw_iload 92 dX11_film_90 rfl rfl ?_
      refine sw_imul 93 dX11_film_92 rfl ?_
      rw [e1]
      refine sw_iconst (v := zI 1) 94 dX11_film_93 rfl (by decide) ?_
      refine sw_iadd 95 dX11_film_94 rfl ?_
      rw [e2]
      refine sw_aload_n 96 dX11_film_95 rfl rfl rfl ?_
      refine sw_getR (b := 33) 99 dX11_film_96 rfl gf_RX11_195 (fun _ _ _ _ => rfl) ⟨by decide, rfl⟩ rfl ?_
      refine sw_iload_n 100 dX11_film_99 rfl rfl rfl ?_
      refine sw_iload 102 dX11_film_100 rfl rfl ?_
      refine sw_iadd 103 dX11_film_102 rfl ?_
      rw [e3]
      refine sw_lald 104 dX11_film_103 rfl ⟨by decide, rfl⟩ (by assumption) ?_
      refine sw_last 105 dX11_film_104 rfl (by first | assumption | exact ⟨by decide, rfl⟩) (by assumption) ?_
      refine sw_iinc (v := zI 1) (lc' := [(0, _), (1, _), (2, _), (3, _), (4, _), (5, _)]) 108 dX11_film_105 rfl (by decide) rfl rfl rfl ?_
      refine sw_goto 50 dX11_film_108 (by decide) ?_
      rw [zI_add, zI_clampN (show 2 * n < 2147483648 by omega), zI_clampN (show 2 * n + 1 < 2147483648 by omega), zI_clampN (show m + n < 2147483648 by omega)]
      have v1 : (sw_wI (sw_pL g (72 + a) F) 75 a (zI (2 * L))).2 32 (m + n) = zL ((tabS σ).2.1 (m + n)) := by
        show (sw_pL g (72 + a) F).2 32 (m + n) = _
        rw [sw_pL_ne (by omega)]; exact tm.1
      rw [v1]
      have q1 : sw_wL (sw_wI (sw_pL g (72 + a) F) 75 a (zI (2 * L))) (72 + a) (2 * n) (zL ((tabS σ).2.1 (m + n))) = sw_wI (sw_pL g (72 + a) (va_up F (2 * n) (zL ((tabS σ).2.1 (m + n))))) 75 a (zI (2 * L)) := wLI
      rw [q1]
      have v2 : (sw_wI (sw_pL g (72 + a) (va_up F (2 * n) (zL ((tabS σ).2.1 (m + n))))) 75 a (zI (2 * L))).2 33 (m + n) = zL ((tabS σ).2.2.1 (m + n)) := by
        show (sw_pL g (72 + a) (va_up F (2 * n) (zL ((tabS σ).2.1 (m + n))))).2 33 (m + n) = _
        rw [sw_pL_ne (by omega)]; exact tm.2.1
      rw [v2]
      have q2 : sw_wL (sw_wI (sw_pL g (72 + a) (va_up F (2 * n) (zL ((tabS σ).2.1 (m + n))))) 75 a (zI (2 * L))) (72 + a) (2 * n + 1) (zL ((tabS σ).2.2.1 (m + n))) = sw_wI (sw_pL g (72 + a) (va_up (va_up F (2 * n) (zL ((tabS σ).2.1 (m + n)))) (2 * n + 1) (zL ((tabS σ).2.2.1 (m + n))))) 75 a (zI (2 * L)) := wLI
      rw [q2]
      refine ih (n + 1) _ (by omega) (fun k hk => ?_)
      unfold va_up tolR
      by_cases k1 : k = 2 * n + 1
      · rw [if_pos k1, k1, if_neg (by omega), show (2 * n + 1) / 2 = n by omega]
      · rw [if_neg k1]
        by_cases k2 : k = 2 * n
        · rw [if_pos k2, k2, if_pos (by omega), show 2 * n / 2 = n by omega]
        · rw [if_neg k2]; exact hF k (by omega)
theorem a_film (K : okS σ) (I : IA h σ) {j i : Int} (s1 : -2147483648 ≤ j) (s2 : j < 2147483648) (i1 : -2147483648 ≤ i) (i2 : i < 2147483648) : sw_ct wA X l (d + 10) mX11_film [.ref 0, .int (zI j), .int (zI i)] h (sw_qI wA X fun r h2 => IA h2 (opFilm (tabS σ) σ j i).2 ∧ r = zI (opFilm (tabS σ) σ j i).1) := by
  refine sw_ct_of (by decide +kernel) (Nat.le_of_ble_eq_true rfl) rfl ?_
  refine sw_aload_n 1 dX11_film_0 rfl rfl rfl ?_
  refine sw_invVR 4 dX11_film_1 rfl lk_RX11_182 (a_known K I) ⟨by decide, rfl⟩ rfl rfl (Nat.le_of_ble_eq_true rfl) (fun r1 h1 hq1 => ?_)
  obtain ⟨rfl, I2, t1, t2, t3, t4⟩ := hq1
  have hN := t1.2.1.1
  refine sw_astore_n (lc' := [(0, _), (1, _), (2, _), (3, _)]) 5 dX11_film_4 rfl rfl (by decide) rfl ?_
  refine sw_iload_n 6 dX11_film_5 rfl rfl rfl ?_
  refine sw_invSI 9 dX11_film_6 rfl lk_RX11_299 (c_isList s1 s2) rfl rfl (Nat.le_of_ble_eq_true rfl) (fun r6 h6 hq6 => ?_)
  obtain ⟨rfl, rfl⟩ := hq6
  refine sw_if_eq 20 12 dX11_film_9 (by decide) rfl (fun c9 => ?_) (fun c9 => ?_)
  · refine sw_iconst (v := zI (-1)) 21 dX11_film_20 rfl (by decide) ?_
    exact sw_iret dX11_film_21 rfl (by
  rw [ifz_eq] at c9
  unfold opFilm; rw [if_neg (fun hh => c9 hh.1)]; exact ⟨I2, rfl⟩)
  · rw [ifz_eq, Decidable.not_not] at c9
    refine sw_aload_n 13 dX11_film_12 rfl rfl rfl ?_
    refine sw_iload_n 14 dX11_film_13 rfl rfl rfl ?_
    refine sw_invVI 17 dX11_film_14 rfl lk_RX11_191 (c_A_has t1 i1 i2) ⟨by decide, rfl⟩ rfl rfl (Nat.le_of_ble_eq_true rfl) (fun r14 h14 hq14 => ?_)
    obtain ⟨rfl, rfl⟩ := hq14
    refine sw_if_ne 22 20 dX11_film_17 (by decide) rfl (fun c17 => ?_) (fun c17 => ?_)
    · rw [ifz_eq, Decidable.not_not] at c17
      obtain ⟨a, rfl⟩ := Int.eq_ofNat_of_zero_le c9.1
      obtain ⟨m, rfl⟩ := Int.eq_ofNat_of_zero_le c17.1
      have ha : a < 3 := by omega
      have hin1 := zI_inN (a := a) (n := 3) ha (by decide)
      have hrf := rf_list ha
      have hsh := sh_list ha
      obtain ⟨L, hL⟩ := Int.eq_ofNat_of_zero_le (show 0 ≤ min 10 ((tabS σ).1 - (m : Int)) by omega)
      refine sw_bipush (v := zI 10) 24 dX11_film_22 rfl (by decide) ?_
      refine sw_aload_n 25 dX11_film_24 rfl rfl rfl ?_
      refine sw_getI 28 dX11_film_25 rfl gf_RX11_186 rfl ⟨by decide, rfl⟩ ?_
      refine sw_iload_n 29 dX11_film_28 rfl rfl rfl ?_
      refine sw_isub 30 dX11_film_29 rfl ?_
      rw [t1.1, zI_sub]
      refine sw_invSI 33 dX11_film_30 rfl lk_RX11_316 (c_minZ (by omega) (by omega) (by omega) (by omega)) rfl rfl (Nat.le_of_ble_eq_true rfl) (fun r30 h30 hq30 => ?_)
      obtain ⟨rfl, rfl⟩ := hq30
      rw [hL]
      refine sw_istore (lc' := [(0, _), (1, _), (2, _), (3, _), (4, _)]) 35 dX11_film_33 rfl (by decide) rfl ?_
      refine sw_aload_n 36 dX11_film_35 rfl rfl rfl ?_
      refine sw_getR (b := 70) 39 dX11_film_36 rfl gf_RX11_78 (fun _ _ _ _ => rfl) ⟨by decide, rfl⟩ rfl ?_
      refine sw_iload_n 40 dX11_film_39 rfl rfl rfl ?_
      refine sw_iconst (v := zI 2) 41 dX11_film_40 rfl (by decide) ?_
      refine sw_iload 43 dX11_film_41 rfl rfl ?_
      refine sw_imul 44 dX11_film_43 rfl ?_
      rw [zI_mul]
      refine sw_invVV 47 dX11_film_44 rfl lk_RX11_302 (c_T_start ha _) ⟨by decide, rfl⟩ rfl rfl (Nat.le_of_ble_eq_true rfl) (fun h44 hq44 => ?_)
      subst hq44
      refine sw_iconst (v := zI 0) 48 dX11_film_47 rfl (by decide) ?_
      refine sw_istore (lc' := [(0, _), (1, _), (2, _), (3, _), (4, _), (5, _)]) 50 dX11_film_48 rfl (by decide) rfl ?_
      have loop : ∀ (c n : Nat) (F : Nat → Int64), n + c = L → (∀ k, k < 2 * n → F k = tolR (tabS σ) m k) → sw_wp wA X l (d + 10) mX11_film (sw_qI wA X fun r h2 => IA h2 (opFilm (tabS σ) σ (a : Nat) (m : Nat)).2 ∧ r = zI (opFilm (tabS σ) σ (a : Nat) (m : Nat)).1) 50 [(0, .ref 0), (1, .int (zI a)), (2, .int (zI m)), (3, .ref 31), (4, .int (zI L)), (5, .int (zI n))] [] (sw_wI (sw_pL h30 (72 + a) F) 75 a (zI (2 * L))) := by
        exact film_loop I2 t1 ha (by omega) hL
      exact loop L 0 _ (by omega) (fun k hk => absurd hk (by omega))
    · refine sw_iconst (v := zI (-1)) 21 dX11_film_20 rfl (by decide) ?_
      exact sw_iret dX11_film_21 rfl (by
  rw [ifz_eq] at c17
  unfold opFilm; rw [if_neg (fun hh => c17 hh.2)]; exact ⟨I2, rfl⟩)
theorem a_judge (K : okS σ) (I : IA h σ) {j i : Int} (s1 : -2147483648 ≤ j) (s2 : j < 2147483648) (i1 : -2147483648 ≤ i) (i2 : i < 2147483648) : sw_ct wA X l (d + 10) mX11_judge [.ref 0, .int (zI j), .int (zI i)] h (sw_qI wA X fun r h2 => IA h2 σ ∧ r = zI (opJudge (tabS σ) σ j i)) := by
  have loop : ∀ (a m : Nat) (g : sw_H) (R : Int), a < 3 → (m : Int) < 2147483648 → IA g σ → tblA g (tabS σ) → 0 ≤ σ.2.2.2.1 a → ∀ (c k : Nat), (k : Int) + c = σ.2.2.2.1 a → jdgZ (tabS σ) (σ.2.2.2.2 a) m (100 + σ.2.2.2.1 a) c k = R → sw_wp wA X l (d + 10) mX11_judge (sw_qI wA X fun r h2 => IA h2 σ ∧ r = zI R) 46 [(0, .ref 0), (1, .int (zI a)), (2, .int (zI m)), (3, .ref 31), (4, .int (zI (σ.2.2.2.1 a))), (5, .int (zI k))] [] g := by
    intro a m g R ha hm Ig t1 hz0 c
    have hN := t1.2.1.1
    have kz := K.2.2.2 a ha
    have hz := Ig.2.2.2.2.2.1 a ha
    have hin1 := zI_inN (a := a) (n := 3) ha (by decide)
    have hrf := rf_list ha
    have hsh := sh_list ha
    induction c with
    | zero =>
      intro k hk hR
      have : (k : Int) = σ.2.2.2.1 a := by omega
      refine sw_iload 48 dX11_judge_46 rfl rfl ?_
      refine sw_iload 50 dX11_judge_48 rfl rfl ?_
      refine sw_icmp_ge 110 53 dX11_judge_50 (by decide) rfl (fun c50 => ?_) (fun c50 => ?_)
      · refine sw_bipush (v := zI 100) 112 dX11_judge_110 rfl (by decide) ?_
        refine sw_iload 114 dX11_judge_112 rfl rfl ?_
        refine sw_iadd 115 dX11_judge_114 rfl ?_
        exact sw_iret dX11_judge_115 rfl (⟨Ig, by rw [← hR, zI_add]; rfl⟩)
      · exact absurd (by rw [this]; exact Int32.le_refl _) c50
    | succ c ih =>
      intro k hk hR
      have le : jdgZ (tabS σ) (σ.2.2.2.2 a) m (100 + σ.2.2.2.1 a) (c + 1) k = if (tabS σ).1 ≤ m + k / 2 ∨ ¬ σ.2.2.2.2 a k = tolR (tabS σ) m k then (k : Int) else jdgZ (tabS σ) (σ.2.2.2.2 a) m (100 + σ.2.2.2.1 a) c (k + 1) := rfl
      have hin2 := zI_inN (a := k) (n := 20) (by omega) (by decide)
      have e1 : zI k / zI 2 = zI ((k / 2 : Nat) : Int) := by rw [zI_div (by omega) (by omega) (by omega) (by omega)]; congr 1
      have e2 : zL m + zL ((k / 2 : Nat) : Int) = zL ((m + k / 2 : Nat) : Int) := by rw [zL_add]; rfl
      have e3 : zI k - zI k / zI 2 * zI 2 = zI ((k % 2 : Nat) : Int) := by rw [zI_rem (by omega) (by omega) (by omega) (by omega)]; congr 1
      have hk2 : ((k % 2 : Nat) : Int) = 0 ∨ ((k % 2 : Nat) : Int) = 1 := by omega
      have v1 := hz.2 k (by omega)
      refine sw_iload 48 dX11_judge_46 rfl rfl ?_
      refine sw_iload 50 dX11_judge_48 rfl rfl ?_
      refine sw_icmp_ge 110 53 dX11_judge_50 (by decide) rfl (fun c50 => ?_) (fun c50 => ?_)
      · exact absurd c50 (by rw [zI_le (by omega) (by omega) (by omega) (by omega)]; omega)
      · refine sw_iload_n 54 dX11_judge_53 rfl rfl rfl ?_
        refine sw_i2l 55 dX11_judge_54 rfl ?_
        rw [zI_i2l (by omega) (by omega)]
        refine sw_iload 57 dX11_judge_55 rfl rfl ?_
        refine sw_iconst (v := zI 2) 58 dX11_judge_57 rfl (by decide) ?_
        refine sw_idiv 59 dX11_judge_58 rfl (by first | assumption | decide) ?_
        rw [e1]
        refine sw_i2l 60 dX11_judge_59 rfl ?_
        rw [zI_i2l (by omega) (by omega)]
        refine sw_ladd 61 dX11_judge_60 rfl ?_
        rw [e2]
        refine sw_lstore (lc' := [(0, _), (1, _), (2, _), (3, _), (4, _), (5, _), (6, _)]) 63 dX11_judge_61 rfl (by decide) rfl ?_
        refine sw_lload 65 dX11_judge_63 rfl rfl ?_
        refine sw_aload_n 66 dX11_judge_65 rfl rfl rfl ?_
        refine sw_getI 69 dX11_judge_66 rfl gf_RX11_186 rfl ⟨by decide, rfl⟩ ?_
        rw [t1.1]
        refine sw_i2l 70 dX11_judge_69 rfl ?_
        rw [zI_i2l (by omega) (by omega)]
        refine sw_lcmp 71 dX11_judge_70 rfl ?_
        refine sw_if_ge 101 74 dX11_judge_71 (by decide) rfl (fun c71 => ?_) (fun c71 => ?_)
        · refine sw_iload 103 dX11_judge_101 rfl rfl ?_
          exact sw_iret dX11_judge_103 rfl (⟨Ig, by
  rw [lc_ge, zL_le (by omega) (by omega) (by omega) (by omega)] at c71
  rw [← hR, le, if_pos (Or.inl (by omega))]⟩)
        · rw [lc_ge, zL_le (by omega) (by omega) (by omega) (by omega)] at c71
          refine sw_aload_n 75 dX11_judge_74 rfl rfl rfl ?_
          refine sw_getR (b := 70) 78 dX11_judge_75 rfl gf_RX11_78 (fun _ _ _ _ => rfl) ⟨by decide, rfl⟩ rfl ?_
          refine sw_getR (b := 71) 81 dX11_judge_78 rfl gf_RX11_312 (fun _ _ _ _ => rfl) ⟨by decide, rfl⟩ rfl ?_
          refine sw_iload_n 82 dX11_judge_81 rfl rfl rfl ?_
          refine sw_aald (b := (72 + a)) (t := 3) 83 dX11_judge_82 rfl ⟨by decide, rfl⟩ (by decide) (by assumption) (by first | assumption | rfl) ?_
          refine sw_iload 85 dX11_judge_83 rfl rfl ?_
          refine sw_lald 86 dX11_judge_85 rfl (by first | assumption | exact ⟨by decide, rfl⟩) (by assumption) ?_
          rw [zI_clampN (by omega), v1]
          refine sw_aload_n 87 dX11_judge_86 rfl rfl rfl ?_
          refine sw_lload 89 dX11_judge_87 rfl rfl ?_
          refine sw_l2i 90 dX11_judge_89 rfl ?_
          rw [zL_l2i]
          refine sw_iload 92 dX11_judge_90 rfl rfl ?_
          refine sw_iconst (v := zI 2) 93 dX11_judge_92 rfl (by decide) ?_
          refine sw_irem 94 dX11_judge_93 rfl (by first | assumption | decide) ?_
          rw [e3]
          refine sw_invVL 97 dX11_judge_94 rfl lk_RX11_187 (c_A_told t1 (by omega) (by omega) hk2) ⟨by decide, rfl⟩ rfl rfl (Nat.le_of_ble_eq_true rfl) (fun r94 h94 hq94 => ?_)
          obtain ⟨rfl, rfl⟩ := hq94
          rw [if_pos (show (0 : Int) ≤ ((m + k / 2 : Nat) : Int) ∧ ((m + k / 2 : Nat) : Int) < ((tabS σ).1 : Nat) by omega)]
          have e4 : zL (if ((k % 2 : Nat) : Int) = 0 then (tabS σ).2.1 ((m + k / 2 : Nat) : Int).toNat else (tabS σ).2.2.1 ((m + k / 2 : Nat) : Int).toNat) = tolR (tabS σ) m k := by
            unfold tolR
            by_cases c0 : k % 2 = 0
            · rw [if_pos (by omega), if_pos c0]; rfl
            · rw [if_neg (by omega), if_neg c0]; rfl
          rw [e4]
          refine sw_lcmp 98 dX11_judge_97 rfl ?_
          refine sw_if_eq 104 101 dX11_judge_98 (by decide) rfl (fun c98 => ?_) (fun c98 => ?_)
          · rw [lc_eq] at c98
            refine sw_iinc (v := zI 1) (lc' := [(0, _), (1, _), (2, _), (3, _), (4, _), (5, _), (6, _)]) 107 dX11_judge_104 rfl (by decide) rfl rfl rfl ?_
            refine sw_goto 46 dX11_judge_107 (by decide) ?_
            rw [zI_add]
            exact sw_wp_sub (by simp) (ih (k + 1) (by omega) (by rw [← hR, le, if_neg (fun hh => by rcases hh with hh | hh; (exact c71 (by omega)); (exact hh c98))]))
          · refine sw_iload 103 dX11_judge_101 rfl rfl ?_
            exact sw_iret dX11_judge_103 rfl (⟨Ig, by
  rw [lc_eq] at c98
  rw [← hR, le, if_pos (Or.inr c98)]⟩)
  refine sw_ct_of (by decide +kernel) (Nat.le_of_ble_eq_true rfl) rfl ?_
  refine sw_iload_n 1 dX11_judge_0 rfl rfl rfl ?_
  refine sw_invSI 4 dX11_judge_1 rfl lk_RX11_299 (c_isList s1 s2) rfl rfl (Nat.le_of_ble_eq_true rfl) (fun r1 h1 hq1 => ?_)
  obtain ⟨rfl, rfl⟩ := hq1
  refine sw_if_eq 11 7 dX11_judge_4 (by decide) rfl (fun c4 => ?_) (fun c4 => ?_)
  · refine sw_iconst (v := zI (-1)) 12 dX11_judge_11 rfl (by decide) ?_
    exact sw_iret dX11_judge_12 rfl (by
  rw [ifz_eq] at c4
  unfold opJudge; rw [if_neg (fun hh => c4 hh.1)]; exact ⟨I, rfl⟩)
  · rw [ifz_eq, Decidable.not_not] at c4
    refine sw_iload_n 8 dX11_judge_7 rfl rfl rfl ?_
    refine sw_if_ge 13 11 dX11_judge_8 (by decide) rfl (fun c8 => ?_) (fun c8 => ?_)
    · rw [z0, zI_le (by omega) (by omega) (by omega) (by omega)] at c8
      obtain ⟨a, rfl⟩ := Int.eq_ofNat_of_zero_le c4.1
      obtain ⟨m, rfl⟩ := Int.eq_ofNat_of_zero_le c8
      have ha : a < 3 := by omega
      have hin1 := zI_inN (a := a) (n := 3) ha (by decide)
      have hz := I.2.2.2.2.2.1 a ha
      have kz := K.2.2.2 a ha
      refine sw_aload_n 14 dX11_judge_13 rfl rfl rfl ?_
      refine sw_getR (b := 70) 17 dX11_judge_14 rfl gf_RX11_78 (fun _ _ _ _ => rfl) ⟨by decide, rfl⟩ rfl ?_
      refine sw_iload_n 18 dX11_judge_17 rfl rfl rfl ?_
      refine sw_invVI 21 dX11_judge_18 rfl lk_RX11_306 (c_T_isMissing ha hz.1 kz.1 kz.2) ⟨by decide, rfl⟩ rfl rfl (Nat.le_of_ble_eq_true rfl) (fun r18 h18 hq18 => ?_)
      obtain ⟨rfl, rfl⟩ := hq18
      refine sw_if_eq 27 24 dX11_judge_21 (by decide) rfl (fun c21 => ?_) (fun c21 => ?_)
      · rw [ifz_eq] at c21
        refine sw_aload_n 28 dX11_judge_27 rfl rfl rfl ?_
        refine sw_invVR 31 dX11_judge_28 rfl lk_RX11_182 (a_known K I) ⟨by decide, rfl⟩ rfl rfl (Nat.le_of_ble_eq_true rfl) (fun r28 h28 hq28 => ?_)
        obtain ⟨rfl, I2, t1, t2, t3, t4⟩ := hq28
        refine sw_astore_n (lc' := [(0, _), (1, _), (2, _), (3, _)]) 32 dX11_judge_31 rfl rfl (by decide) rfl ?_
        refine sw_aload_n 33 dX11_judge_32 rfl rfl rfl ?_
        refine sw_getR (b := 70) 36 dX11_judge_33 rfl gf_RX11_78 (fun _ _ _ _ => rfl) ⟨by decide, rfl⟩ rfl ?_
        refine sw_getR (b := 75) 39 dX11_judge_36 rfl gf_RX11_321 (fun _ _ _ _ => rfl) ⟨by decide, rfl⟩ rfl ?_
        refine sw_iload_n 40 dX11_judge_39 rfl rfl rfl ?_
        refine sw_iald 41 dX11_judge_40 rfl ⟨by decide, rfl⟩ (by assumption) ?_
        rw [zI_clampN (by omega), (I2.2.2.2.2.2.1 a ha).1]
        refine sw_istore (lc' := [(0, _), (1, _), (2, _), (3, _), (4, _)]) 43 dX11_judge_41 rfl (by decide) rfl ?_
        refine sw_iconst (v := zI 0) 44 dX11_judge_43 rfl (by decide) ?_
        refine sw_istore (lc' := [(0, _), (1, _), (2, _), (3, _), (4, _), (5, _)]) 46 dX11_judge_44 rfl (by decide) rfl ?_
        unfold opJudge; rw [if_pos ⟨c4, c8⟩]; simp only [Int.toNat_natCast]; rw [if_neg c21]
        exact loop a m _ _ ha i2 I2 t1 (by omega) _ 0 (by omega) rfl
      · rw [ifz_eq, Decidable.not_not] at c21
        refine sw_bipush (v := zI (-11)) 26 dX11_judge_24 rfl (by decide) ?_
        exact sw_iret dX11_judge_26 rfl (by
  unfold opJudge; rw [if_pos ⟨c4, c8⟩]; simp only [Int.toNat_natCast]; rw [if_pos c21]; exact ⟨I, rfl⟩)
    · refine sw_iconst (v := zI (-1)) 12 dX11_judge_11 rfl (by decide) ?_
      exact sw_iret dX11_judge_12 rfl (by
  rw [z0, zI_le (by omega) (by omega) (by omega) (by omega)] at c8
  unfold opJudge; rw [if_neg (fun hh => c8 hh.2)]; exact ⟨I, rfl⟩)
/-- the draws of one lot -/
theorem lots_in (K : okS σ) {Qc : sw_Q} {n z hits lot x : Int32} (kont : ∀ H, IA H σ → tblA H (tabS σ) → (∀ t, t < σ.1.1.1 → H.1 61 t = zI (lotE σ.1.1.2.2 x t)) → sw_wp wA X l (d + 10) mX11_lots Qc 111 [(0, .ref 0), (1, .int n), (2, .int z), (3, .ref 31), (4, .int hits), (5, .int (itS σ.1.1.1 x)), (6, .int lot)] [] H) : ∀ (c j : Nat) (H : sw_H), j + c = σ.1.1.1 → IA H σ → tblA H (tabS σ) → (∀ t, t < j → H.1 61 t = zI (lotE σ.1.1.2.2 x t)) → sw_wp wA X l (d + 10) mX11_lots Qc 44 [(0, .ref 0), (1, .int n), (2, .int z), (3, .ref 31), (4, .int hits), (5, .int (itS j x)), (6, .int lot), (7, .int (zI j))] [] H := by
  have hn := K.1.1.1
  intro c
  induction c with
  | zero =>
    intro j H hj IH t1 hE
    have : j = σ.1.1.1 := by omega
    subst this
    refine sw_iload 46 dX11_lots_44 rfl rfl ?_
    refine sw_aload_n 47 dX11_lots_46 rfl rfl rfl ?_
    refine sw_getR (b := 1) 50 dX11_lots_47 rfl gf_RX11_12 (fun _ _ _ _ => rfl) ⟨by decide, rfl⟩ rfl ?_
    refine sw_getR (b := 2) 53 dX11_lots_50 rfl gf_RX11_86 (fun _ _ _ _ => rfl) ⟨by decide, rfl⟩ rfl ?_
    refine sw_getI 56 dX11_lots_53 rfl gf_RX11_96 rfl ⟨by decide, rfl⟩ ?_
    rw [(IA_B K IH).1]
    refine sw_icmp_ge 111 59 dX11_lots_56 (by decide) rfl (fun c56 => ?_) (fun c56 => ?_)
    · exact sw_wp_sub (by simp) (kont _ IH t1 hE)
    · exact absurd (Int32.le_refl _) c56
  | succ c ih =>
    intro j H hj IH t1 hE
    have hin := zI_inN (a := j) (n := 4) (by omega) (by decide)
    have hb := (IA_B K IH).2.2.2 j (by omega)
    have db := drZ_b (itS (j + 1) x) (m := 2 * σ.1.1.2.2 j + 1) (by omega)
    refine sw_iload 46 dX11_lots_44 rfl rfl ?_
    refine sw_aload_n 47 dX11_lots_46 rfl rfl rfl ?_
    refine sw_getR (b := 1) 50 dX11_lots_47 rfl gf_RX11_12 (fun _ _ _ _ => rfl) ⟨by decide, rfl⟩ rfl ?_
    refine sw_getR (b := 2) 53 dX11_lots_50 rfl gf_RX11_86 (fun _ _ _ _ => rfl) ⟨by decide, rfl⟩ rfl ?_
    refine sw_getI 56 dX11_lots_53 rfl gf_RX11_96 rfl ⟨by decide, rfl⟩ ?_
    rw [(IA_B K IH).1]
    refine sw_icmp_ge 111 59 dX11_lots_56 (by decide) rfl (fun c56 => ?_) (fun c56 => ?_)
    · exact absurd c56 (by rw [zI_le (by omega) (by omega) (by omega) (by omega)]; omega)
    · refine sw_aload_n 60 dX11_lots_59 rfl rfl rfl ?_
      refine sw_getR (b := 1) 63 dX11_lots_60 rfl gf_RX11_12 (fun _ _ _ _ => rfl) ⟨by decide, rfl⟩ rfl ?_
      refine sw_getR (b := 2) 66 dX11_lots_63 rfl gf_RX11_86 (fun _ _ _ _ => rfl) ⟨by decide, rfl⟩ rfl ?_
      refine sw_getR (b := 4) 69 dX11_lots_66 rfl gf_RX11_121 (fun _ _ _ _ => rfl) ⟨by decide, rfl⟩ rfl ?_
      refine sw_iload 71 dX11_lots_69 rfl rfl ?_
      refine sw_iald 72 dX11_lots_71 rfl ⟨by decide, rfl⟩ (by assumption) ?_
      rw [zI_clampN (by omega), hb.1]
      refine sw_istore (lc' := [(0, _), (1, _), (2, _), (3, _), (4, _), (5, _), (6, _), (7, _), (8, _)]) 74 dX11_lots_72 rfl (by decide) rfl ?_
      refine sw_iload 76 dX11_lots_74 rfl rfl ?_
      refine sw_invSI 79 dX11_lots_76 rfl lk_RX11_220 (c_nextSeed _) rfl rfl (Nat.le_of_ble_eq_true rfl) (fun r76 h76 hq76 => ?_)
      obtain ⟨rfl, rfl⟩ := hq76
      refine sw_istore (lc' := [(0, _), (1, _), (2, _), (3, _), (4, _), (5, _), (6, _), (7, _), (8, _)]) 81 dX11_lots_79 rfl (by decide) rfl ?_
      refine sw_aload_n 82 dX11_lots_81 rfl rfl rfl ?_
      refine sw_getR (b := 60) 85 dX11_lots_82 rfl gf_RX11_45 (fun _ _ _ _ => rfl) ⟨by decide, rfl⟩ rfl ?_
      refine sw_getR (b := 61) 88 dX11_lots_85 rfl gf_RX11_131 (fun _ _ _ _ => rfl) ⟨by decide, rfl⟩ rfl ?_
      refine sw_iload 90 dX11_lots_88 rfl rfl ?_
      refine sw_iload 92 dX11_lots_90 rfl rfl ?_
      refine sw_iconst (v := zI 2) 93 dX11_lots_92 rfl (by decide) ?_
      refine sw_iload 95 dX11_lots_93 rfl rfl ?_
      refine sw_imul 96 dX11_lots_95 rfl ?_
      refine sw_iconst (v := zI 1) 97 dX11_lots_96 rfl (by decide) ?_
      refine sw_iadd 98 dX11_lots_97 rfl ?_
      rw [zI_mul, zI_add]
      refine sw_invSI 101 dX11_lots_98 rfl lk_RX11_223 (c_draw _ (by omega) (by omega)) rfl rfl (Nat.le_of_ble_eq_true rfl) (fun r98 h98 hq98 => ?_)
      obtain ⟨rfl, rfl⟩ := hq98
      refine sw_iload 103 dX11_lots_101 rfl rfl ?_
      refine sw_isub 104 dX11_lots_103 rfl ?_
      rw [zI_sub]
      refine sw_iast 105 dX11_lots_104 rfl ⟨by decide, rfl⟩ (by assumption) ?_
      refine sw_iinc (v := zI 1) (lc' := [(0, _), (1, _), (2, _), (3, _), (4, _), (5, _), (6, _), (7, _), (8, _)]) 108 dX11_lots_105 rfl (by decide) rfl rfl rfl ?_
      refine sw_goto 44 dX11_lots_108 (by decide) ?_
      rw [zI_add, zI_clampN (by omega)]
      refine sw_wp_sub (by simp [itS]) (ih (j + 1) _ (by omega) (IA_work IH (fun a h1 h2 => sw_wI_ne h2) rfl) (tblA_ag t1 (fun a h1 h2 => ⟨sw_wI_ne (by omega), rfl⟩)) (fun t ht => ?_))
      rw [sw_wI_at]
      unfold va_up
      by_cases e : t = j
      · rw [if_pos e, e]; rfl
      · rw [if_neg e]; exact hE t (by omega)
theorem lots_sign {Qc : sw_Q} {g : sw_H} {n z hits lot x : Int32} (Ig : IA g σ) (tg : tblA g (tabS σ)) (gE : ∀ t, t < σ.1.1.1 → g.1 61 t = zI (lotE σ.1.1.2.2 x t)) (tail : ∀ (g : sw_H), IA g σ → tblA g (tabS σ) → (∀ t, t < σ.1.1.1 → g.1 61 t = zI (lotE σ.1.1.2.2 x t)) → g.1 60 1 = zI (lotG σ.1.1.1 x) → sw_wp wA X l (d + 10) mX11_lots Qc 140 [(0, .ref 0), (1, .int n), (2, .int z), (3, .ref 31), (4, .int hits), (5, .int (nxS (itS σ.1.1.1 x))), (6, .int lot)] [] g) : sw_wp wA X l (d + 10) mX11_lots Qc 111 [(0, .ref 0), (1, .int n), (2, .int z), (3, .ref 31), (4, .int hits), (5, .int (itS σ.1.1.1 x)), (6, .int lot)] [] g := by
  have db := drZ_b (itS (σ.1.1.1 + 1) x) (m := 2) (by omega)
  have fin : ∀ s : Int, s = lotG σ.1.1.1 x → sw_wp wA X l (d + 10) mX11_lots Qc 140 [(0, .ref 0), (1, .int n), (2, .int z), (3, .ref 31), (4, .int hits), (5, .int (nxS (itS σ.1.1.1 x))), (6, .int lot)] [] (sw_wI g 60 1 (zI s)) := by
    intro s hs
    subst hs
    exact tail _ (IA_work Ig (fun a h1 h2 => sw_wI_ne h1) rfl) (tblA_ag tg (fun a h1 h2 => ⟨sw_wI_ne (by omega), rfl⟩)) (fun t ht => by rw [sw_wI_ne (by decide)]; exact gE t ht) (by rw [sw_wI_at]; simp [va_up])
  refine sw_iload 113 dX11_lots_111 rfl rfl ?_
  refine sw_invSI 116 dX11_lots_113 rfl lk_RX11_220 (c_nextSeed _) rfl rfl (Nat.le_of_ble_eq_true rfl) (fun r113 h113 hq113 => ?_)
  obtain ⟨rfl, rfl⟩ := hq113
  refine sw_istore (lc' := [(0, _), (1, _), (2, _), (3, _), (4, _), (5, _), (6, _)]) 118 dX11_lots_116 rfl (by decide) rfl ?_
  refine sw_aload_n 119 dX11_lots_118 rfl rfl rfl ?_
  refine sw_getR (b := 60) 122 dX11_lots_119 rfl gf_RX11_45 (fun _ _ _ _ => rfl) ⟨by decide, rfl⟩ rfl ?_
  refine sw_iload 124 dX11_lots_122 rfl rfl ?_
  refine sw_iconst (v := zI 2) 125 dX11_lots_124 rfl (by decide) ?_
  refine sw_invSI 128 dX11_lots_125 rfl lk_RX11_223 (c_draw _ (by omega) (by omega)) rfl rfl (Nat.le_of_ble_eq_true rfl) (fun r125 h125 hq125 => ?_)
  obtain ⟨rfl, rfl⟩ := hq125
  rw [show nxS (itS σ.1.1.1 x) = itS (σ.1.1.1 + 1) x from rfl] at fin ⊢
  refine sw_iconst (v := zI 1) 129 dX11_lots_128 rfl (by decide) ?_
  refine sw_icmp_ne 136 132 dX11_lots_129 (by decide) rfl (fun c129 => ?_) (fun c129 => ?_)
  · refine sw_iconst (v := zI 1) 137 dX11_lots_136 rfl (by decide) ?_
    refine sw_putI 140 dX11_lots_137 rfl pf_RX11_134 rfl ⟨by decide, rfl⟩ ?_
    rw [zI_eq (by omega) (by omega) (by omega) (by omega)] at c129
    exact fin 1 (by unfold lotG; rw [if_neg (by omega)])
  · refine sw_iconst (v := zI (-1)) 133 dX11_lots_132 rfl (by decide) ?_
    refine sw_goto 137 dX11_lots_133 (by decide) ?_
    refine sw_putI 140 dX11_lots_137 rfl pf_RX11_134 rfl ⟨by decide, rfl⟩ ?_
    rw [zI_eq (by omega) (by omega) (by omega) (by omega)] at c129
    exact fin (-1) (by unfold lotG; rw [if_pos (by omega)])
theorem lotG_1 (n : Nat) (x : Int32) : lotG n x = 1 ∨ lotG n x = -1 := by
  unfold lotG
  by_cases c : drZ (itS (n + 1) x) 2 = 1
  · rw [if_pos c]; exact Or.inr rfl
  · rw [if_neg c]; exact Or.inl rfl
theorem c_num {g : sw_H} {E : Nat → Int} {S : Int} (K : okS σ) (Ig : IA g σ) (tg : tblA g (tabS σ)) (t2 : srtZ (tabS σ)) (eb : ∀ i, i < σ.1.1.1 → -6 ≤ E i ∧ E i ≤ 6) (hS : S = 1 ∨ S = -1) (gE : ∀ t, t < σ.1.1.1 → g.1 61 t = zI (E t)) (gS : g.1 60 1 = zI S) (b1 : 0 < sideZ σ.1.1.2.1 E 1 σ.1.1.1 ∧ sideZ σ.1.1.2.1 E 1 σ.1.1.1 ≤ 1000000000000000000) (b2 : 0 < sideZ σ.1.1.2.1 E (-1) σ.1.1.1 ∧ sideZ σ.1.1.2.1 E (-1) σ.1.1.1 ≤ 1000000000000000000) :
    sw_ct wA X l (d + 2) mX0_numberOf [.ref 31, .ref 60, .ref 2] g (sw_qI wA X fun r h2 => h2 = g ∧ r = zI (whT (tabS σ) (S * sideZ σ.1.1.2.1 E 1 σ.1.1.1) (sideZ σ.1.1.2.1 E (-1) σ.1.1.1))) :=
  sw_ct_monoI (fun r h2 q => ⟨q.1, whT_of q.2⟩) (c_A_numberOf (e := E) (sg := S) tg t2 isU_work (IA_B K Ig) (fun i hi => ⟨gE i hi, by have := eb i hi; omega⟩) gS hS (by omega) (by omega) (by omega))
theorem a_lots (K : okS σ) (I : IA h σ) {n : Int} {z : Int32} (n1 : -2147483648 ≤ n) (n2 : n < 2147483648) : sw_ct wA X l (d + 10) mX11_lots [.ref 0, .int (zI n), .int z] h (sw_qI wA X fun r h2 => IA h2 σ ∧ r = zI (opLots (tabS σ) σ n z)) := by
  have hn4 := K.1.1.1
  have kB := K.1.1
  have eb : ∀ x i, i < σ.1.1.1 → -6 ≤ lotE σ.1.1.2.2 x i ∧ lotE σ.1.1.2.2 x i ≤ 6 := fun x i hi => by
    have h1 := kB.2.2.2.2 i hi
    have h2 := drZ_b (itS (i + 1) x) (m := 2 * σ.1.1.2.2 i + 1) (by omega)
    unfold lotE; omega
  have sb : ∀ x s, s = 1 ∨ s = -1 → 0 < sideZ σ.1.1.2.1 (lotE σ.1.1.2.2 x) s σ.1.1.1 ∧ sideZ σ.1.1.2.1 (lotE σ.1.1.2.2 x) s σ.1.1.1 ≤ 1000000000000000000 := fun x s hs => by
    have h1 := side_b (p := σ.1.1.2.1) (e := lotE σ.1.1.2.2 x) hs σ.1.1.1 (fun i hi => (kB.2.1 i hi).2.1) (eb x)
    have h2 := pow6_le (x := prodZ σ.1.1.2.1 σ.1.1.1) (Int.le_of_lt (prodZ_pos _ (fun i hi => by have := (kB.2.1 i hi).2.1; omega))) kB.2.2.2.1
    omega
  have loop : ∀ (L c k : Nat) (H : sw_H), n = (L : Nat) → L ≤ 50 → k + c = L → IA H σ → tblA H (tabS σ) → srtZ (tabS σ) → sw_wp wA X l (d + 10) mX11_lots (sw_qI wA X fun r h2 => IA h2 σ ∧ r = zI (lotsN (tabS σ) σ z L)) 28 [(0, .ref 0), (1, .int (zI n)), (2, .int z), (3, .ref 31), (4, .int (zI (lotsN (tabS σ) σ z k))), (5, .int (sdS σ.1.1.1 k z)), (6, .int (zI k))] [] H := by
    intro L c
    induction c with
    | zero =>
      intro k H hnL hL hk IH t1 t2
      have : k = L := by omega
      subst this
      refine sw_iload 30 dX11_lots_28 rfl rfl ?_
      refine sw_iload_n 31 dX11_lots_30 rfl rfl rfl ?_
      refine sw_icmp_ge 167 34 dX11_lots_31 (by decide) rfl (fun c31 => ?_) (fun c31 => ?_)
      · refine sw_iload 169 dX11_lots_167 rfl rfl ?_
        exact sw_iret dX11_lots_169 rfl (⟨IH, rfl⟩)
      · exact absurd (by rw [hnL]; exact Int32.le_refl _) c31
    | succ c ih =>
      intro k H hnL hL hk IH t1 t2
      have e9 : lotsN (tabS σ) σ z (k + 1) = lotsN (tabS σ) σ z k + if 0 ≤ whT (tabS σ) (lotA σ (sdS σ.1.1.1 k z)) (lotB σ (sdS σ.1.1.1 k z)) then 1 else 0 := rfl
      have hl := lotsN_le (tabS σ) σ z k
      have wb := whT_b (T := tabS σ) t1.2.1.1 (lotA σ (sdS σ.1.1.1 k z)) (lotB σ (sdS σ.1.1.1 k z))
      have es : sdS σ.1.1.1 (k + 1) z = nxS (itS σ.1.1.1 (sdS σ.1.1.1 k z)) := rfl
      have b1 := sb (sdS σ.1.1.1 k z) 1 (Or.inl rfl)
      have b2 := sb (sdS σ.1.1.1 k z) (-1) (Or.inr rfl)
      have tail : ∀ (g : sw_H), IA g σ → tblA g (tabS σ) → (∀ t, t < σ.1.1.1 → g.1 61 t = zI (lotE σ.1.1.2.2 (sdS σ.1.1.1 k z) t)) → g.1 60 1 = zI (lotG σ.1.1.1 (sdS σ.1.1.1 k z)) → sw_wp wA X l (d + 10) mX11_lots (sw_qI wA X fun r h2 => IA h2 σ ∧ r = zI (lotsN (tabS σ) σ z L)) 140 [(0, .ref 0), (1, .int (zI n)), (2, .int z), (3, .ref 31), (4, .int (zI (lotsN (tabS σ) σ z k))), (5, .int (nxS (itS σ.1.1.1 (sdS σ.1.1.1 k z)))), (6, .int (zI k))] [] g := by
        intro g Ig tg gE gS
        have i9 := ih (k + 1) g hnL hL (by omega) Ig tg t2
        refine sw_aload_n 141 dX11_lots_140 rfl rfl rfl ?_
        refine sw_aload_n 142 dX11_lots_141 rfl rfl rfl ?_
        refine sw_getR (b := 60) 145 dX11_lots_142 rfl gf_RX11_45 (fun _ _ _ _ => rfl) ⟨by decide, rfl⟩ rfl ?_
        refine sw_aload_n 146 dX11_lots_145 rfl rfl rfl ?_
        refine sw_getR (b := 1) 149 dX11_lots_146 rfl gf_RX11_12 (fun _ _ _ _ => rfl) ⟨by decide, rfl⟩ rfl ?_
        refine sw_getR (b := 2) 152 dX11_lots_149 rfl gf_RX11_86 (fun _ _ _ _ => rfl) ⟨by decide, rfl⟩ rfl ?_
        refine sw_invVI 155 dX11_lots_152 rfl lk_RX11_197 (c_num K Ig tg t2 (eb (sdS σ.1.1.1 k z)) (lotG_1 _ _) gE gS b1 b2) ⟨by decide, rfl⟩ rfl rfl (Nat.le_of_ble_eq_true rfl) (fun r152 h152 hq152 => ?_)
        obtain ⟨rfl, rfl⟩ := hq152
        rw [show lotG σ.1.1.1 (sdS σ.1.1.1 k z) * sideZ σ.1.1.2.1 (lotE σ.1.1.2.2 (sdS σ.1.1.1 k z)) 1 σ.1.1.1 = lotA σ (sdS σ.1.1.1 k z) from rfl, show sideZ σ.1.1.2.1 (lotE σ.1.1.2.2 (sdS σ.1.1.1 k z)) (-1) σ.1.1.1 = lotB σ (sdS σ.1.1.1 k z) from rfl]
        refine sw_if_lt 161 158 dX11_lots_155 (by decide) rfl (fun c155 => ?_) (fun c155 => ?_)
        · refine sw_iinc (v := zI 1) (lc' := [(0, _), (1, _), (2, _), (3, _), (4, _), (5, _), (6, _)]) 164 dX11_lots_161 rfl (by decide) rfl rfl rfl ?_
          refine sw_goto 28 dX11_lots_164 (by decide) ?_
          rw [z0, zI_lt (by omega) (by omega) (by omega) (by omega)] at c155
          rw [e9, if_neg (by omega), Nat.add_zero] at i9
          simp only [zI_add]
          exact i9
        · refine sw_iinc (v := zI 1) (lc' := [(0, _), (1, _), (2, _), (3, _), (4, _), (5, _), (6, _)]) 161 dX11_lots_158 rfl (by decide) rfl rfl rfl ?_
          refine sw_iinc (v := zI 1) (lc' := [(0, _), (1, _), (2, _), (3, _), (4, _), (5, _), (6, _)]) 164 dX11_lots_161 rfl (by decide) rfl rfl rfl ?_
          refine sw_goto 28 dX11_lots_164 (by decide) ?_
          rw [z0, zI_lt (by omega) (by omega) (by omega) (by omega)] at c155
          rw [e9, if_pos (by omega)] at i9
          simp only [zI_add]
          exact i9
      refine sw_iload 30 dX11_lots_28 rfl rfl ?_
      refine sw_iload_n 31 dX11_lots_30 rfl rfl rfl ?_
      refine sw_icmp_ge 167 34 dX11_lots_31 (by decide) rfl (fun c31 => ?_) (fun c31 => ?_)
      · exact absurd c31 (by rw [hnL, zI_le (by omega) (by omega) (by omega) (by omega)]; omega)
      · refine sw_aload_n 35 dX11_lots_34 rfl rfl rfl ?_
        refine sw_getR (b := 60) 38 dX11_lots_35 rfl gf_RX11_45 (fun _ _ _ _ => rfl) ⟨by decide, rfl⟩ rfl ?_
        refine sw_invVV 41 dX11_lots_38 rfl lk_RX11_217 (c_U_setOne isU_work) ⟨by decide, rfl⟩ rfl rfl (Nat.le_of_ble_eq_true rfl) (fun h38 hq38 => ?_)
        subst hq38
        refine sw_iconst (v := zI 0) 42 dX11_lots_41 rfl (by decide) ?_
        refine sw_istore (lc' := [(0, _), (1, _), (2, _), (3, _), (4, _), (5, _), (6, _), (7, _)]) 44 dX11_lots_42 rfl (by decide) rfl ?_
        refine lots_in K (x := sdS σ.1.1.1 k z) ?_ σ.1.1.1 0 _ (by omega) (IA_work IH (fun a h1 h2 => uH_other h1 h2) rfl) (tblA_ag t1 (fun a h1 h2 => ⟨uH_other (by omega) (by omega), rfl⟩)) (fun t ht => absurd ht (Nat.not_lt_zero t))
        intro g Ig tg gE
        exact lots_sign Ig tg gE tail
  refine sw_ct_of (by decide +kernel) (Nat.le_of_ble_eq_true rfl) rfl ?_
  refine sw_iload_n 1 dX11_lots_0 rfl rfl rfl ?_
  refine sw_iconst (v := zI 1) 2 dX11_lots_1 rfl (by decide) ?_
  refine sw_icmp_lt 11 5 dX11_lots_2 (by decide) rfl (fun c2 => ?_) (fun c2 => ?_)
  · refine sw_bipush (v := zI (-2)) 13 dX11_lots_11 rfl (by decide) ?_
    exact sw_iret dX11_lots_13 rfl (by
  rw [zI_lt (by omega) (by omega) (by omega) (by omega)] at c2
  unfold opLots; rw [if_pos (by omega)]; exact ⟨I, rfl⟩)
  · rw [zI_lt (by omega) (by omega) (by omega) (by omega)] at c2
    refine sw_iload_n 6 dX11_lots_5 rfl rfl rfl ?_
    refine sw_bipush (v := zI 50) 8 dX11_lots_6 rfl (by decide) ?_
    refine sw_icmp_le 14 11 dX11_lots_8 (by decide) rfl (fun c8 => ?_) (fun c8 => ?_)
    · rw [zI_le (by omega) (by omega) (by omega) (by omega)] at c8
      refine sw_aload_n 15 dX11_lots_14 rfl rfl rfl ?_
      refine sw_invVR 18 dX11_lots_15 rfl lk_RX11_182 (a_known K I) ⟨by decide, rfl⟩ rfl rfl (Nat.le_of_ble_eq_true rfl) (fun r15 h15 hq15 => ?_)
      obtain ⟨rfl, I2, t1, t2, t3, t4⟩ := hq15
      refine sw_astore_n (lc' := [(0, _), (1, _), (2, _), (3, _)]) 19 dX11_lots_18 rfl rfl (by decide) rfl ?_
      refine sw_iconst (v := zI 0) 20 dX11_lots_19 rfl (by decide) ?_
      refine sw_istore (lc' := [(0, _), (1, _), (2, _), (3, _), (4, _)]) 22 dX11_lots_20 rfl (by decide) rfl ?_
      refine sw_iload_n 23 dX11_lots_22 rfl rfl rfl ?_
      refine sw_istore (lc' := [(0, _), (1, _), (2, _), (3, _), (4, _), (5, _)]) 25 dX11_lots_23 rfl (by decide) rfl ?_
      refine sw_iconst (v := zI 0) 26 dX11_lots_25 rfl (by decide) ?_
      refine sw_istore (lc' := [(0, _), (1, _), (2, _), (3, _), (4, _), (5, _), (6, _)]) 28 dX11_lots_26 rfl (by decide) rfl ?_
      unfold opLots; rw [if_neg (by omega)]
      obtain ⟨L, rfl⟩ := Int.eq_ofNat_of_zero_le (show 0 ≤ n by omega)
      exact loop L L 0 _ rfl (by omega) (by omega) I2 t1 t2
    · refine sw_bipush (v := zI (-2)) 13 dX11_lots_11 rfl (by decide) ?_
      exact sw_iret dX11_lots_13 rfl (by
  rw [zI_le (by omega) (by omega) (by omega) (by omega)] at c8
  unfold opLots; rw [if_pos (by omega)]; exact ⟨I, rfl⟩)
end sw_ops7
