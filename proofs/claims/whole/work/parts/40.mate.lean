/-! PARTNERS: as the class finds them, as the reference does -/
def faE (e : Nat → Int) (i : Nat) : Nat := (1 * e i).toNat
def fbE (e : Nat → Int) (i : Nat) : Nat := (-1 * e i).toNat
def aU (n : Nat) (p e : Nat → Int) (sg : Int) : Int := sg * sideZ p e 1 n
def bU (n : Nat) (p e : Nat → Int) : Int := sideZ p e (-1) n
def e6Z (n : Nat) (e : Nat → Int) : Prop := ∀ i, i < n → -6 ≤ e i ∧ e i ≤ 6
theorem a_PZ (n : Nat) (p e : Nat → Int) (sg : Int) : aU n p e sg = sg * PZ p (faE e) n := by unfold aU; rw [side_PZ]; rfl
theorem b_PZ (n : Nat) (p e : Nat → Int) : bU n p e = PZ p (fbE e) n := side_PZ p e (-1) n
theorem rc_dvd (m : Nat) (p : Nat → Int) (r : Int) (i : Nat) : rc m p i r ∣ r := ⟨PZ p (cn m p r) i, by rw [Int.mul_comm]; exact (rc_back m p r i).symm⟩
theorem cn_zero {m : Nat} {p : Nat → Int} {r : Int} {i : Nat} (h : ¬ r % p i = 0) : cn m p r i = 0 := by
  unfold cn
  cases m with
  | zero => rfl
  | succ m =>
    unfold cntUp
    rw [if_neg (fun e => h (Int.emod_eq_zero_of_dvd (Int.dvd_trans (Int.dvd_of_emod_eq_zero e) (rc_dvd (m + 1) p r i))))]
theorem abs_mod {x q : Int} : ((x.natAbs : Nat) : Int) % q = 0 ↔ x % q = 0 := by
  rw [← Int.dvd_iff_emod_eq_zero, ← Int.dvd_iff_emod_eq_zero]
  exact Int.dvd_natAbs
theorem c_no {n : Nat} {p e : Nat → Int} {sg : Int} (hp : copP n p) (hs : sg = 1 ∨ sg = -1) {i : Nat} (hi : i < n) (he : ¬ e i = 0) : ¬ (bU n p e - aU n p e sg) % p i = 0 := by
  intro h0
  have hd := Int.dvd_of_emod_eq_zero h0
  have h2 := hp.1 i hi
  have cop : ∀ f : Nat → Nat, f i = 0 → ¬ PZ p f n % p i = 0 := fun f hf => cpZ_no (cp_PZ n (fun j hj => by
    by_cases e : j = i
    · exact Or.inl (by rw [e]; exact hf)
    · exact Or.inr (hp.2 i j hi hj (Ne.symm e)))) h2
  rw [a_PZ, b_PZ] at hd
  have sga : ∀ x : Int, p i ∣ sg * x → p i ∣ x := by
    intro x hx
    rcases hs with rfl | rfl
    · rw [Int.one_mul] at hx; exact hx
    · have := Int.dvd_neg.mpr hx
      rw [show -(-1 * x) = x by omega] at this; exact this
  by_cases c : e i < 0
  · have h3 : p i ∣ PZ p (fbE e) n := Int.dvd_of_emod_eq_zero (PZ_mod hi (by unfold fbE; omega))
    have h4 : p i ∣ sg * PZ p (faE e) n := by
      have := Int.dvd_sub h3 hd
      rw [show PZ p (fbE e) n - (PZ p (fbE e) n - sg * PZ p (faE e) n) = sg * PZ p (faE e) n by omega] at this
      exact this
    exact cop (faE e) (by unfold faE; omega) (Int.emod_eq_zero_of_dvd (sga _ h4))
  · have h3 : p i ∣ PZ p (faE e) n := Int.dvd_of_emod_eq_zero (PZ_mod hi (by unfold faE; omega))
    have h4 : p i ∣ sg * PZ p (faE e) n := Int.dvd_mul_of_dvd_right h3
    have h5 : p i ∣ PZ p (fbE e) n := by
      have := Int.dvd_add hd h4
      rw [show PZ p (fbE e) n - sg * PZ p (faE e) n + sg * PZ p (faE e) n = PZ p (fbE e) n by omega] at this
      exact this
    exact cop (fbE e) (by unfold fbE; omega) (Int.emod_eq_zero_of_dvd h5)
def mtP (n : Nat) (p e : Nat → Int) (x : Int) : Prop := (∀ i, i < n → min 0 (e i) + (cn 63 p x i : Int) ≤ 6) ∧ rc 63 p n x = 1
theorem fbE_le {n : Nat} {e : Nat → Int} (he : e6Z n e) : ∀ i, i < n → fbE e i ≤ 6 := fun i hi => by have := he i hi; unfold fbE; omega
theorem faE_le {n : Nat} {e : Nat → Int} (he : e6Z n e) : ∀ i, i < n → faE e i ≤ 6 := fun i hi => by have := he i hi; unfold faE; omega
theorem mt_eq {n : Nat} {p e : Nat → Int} {sg : Int} (hp : copP n p) (hs : sg = 1 ∨ sg = -1) (he : e6Z n e) (hc : ¬ bU n p e - aU n p e sg = 0) :
    (mtP n p e (bU n p e - aU n p e sg).natAbs ↔ frOK n p (bU n p e - aU n p e sg) (bU n p e) = true) ∧
    (frOK n p (bU n p e - aU n p e sg) (bU n p e) = true → ∀ i, i < n → min 0 (e i) + (cn 63 p (bU n p e - aU n p e sg).natAbs i : Int) = frU n p (bU n p e - aU n p e sg) (bU n p e) i) := by
  have hb : rc 6 p n (bU n p e) = 1 := (rc_one hp).mpr ⟨fbE e, fbE_le he, b_PZ n p e⟩
  have cz : ∀ m i, i < n → ¬ e i = 0 → cn m p ((bU n p e - aU n p e sg).natAbs : Int) i = 0 := fun m i hi h0 => cn_zero (fun h => c_no hp hs hi h0 (abs_mod.mp h))
  have iff1 : frOK n p (bU n p e - aU n p e sg) (bU n p e) = true ↔ rc 6 p n (bU n p e - aU n p e sg).natAbs = 1 := by
    unfold frOK
    rw [rest_rc, rest_rc, decide_eq_true_iff]
    exact ⟨fun h => h.2.1, fun h => ⟨hc, h, hb⟩⟩
  rw [iff1]
  generalize bU n p e - aU n p e sg = c at cz
  refine ⟨⟨fun ⟨h1, h2⟩ => ?_, fun h => ?_⟩, fun h i hi => ?_⟩
  · refine (rc_one hp).mpr ⟨cn 63 p c.natAbs, fun i hi => ?_, ?_⟩
    · by_cases z : e i = 0
      · have := h1 i hi; rw [z] at this; omega
      · rw [cz 63 i hi z]; omega
    · have := rc_back 63 p c.natAbs n
      rw [h2, Int.mul_one] at this
      exact this.symm
  · obtain ⟨f, hf, ef⟩ := (rc_one hp).mp h
    have ec : ∀ i, i < n → cn 63 p c.natAbs i = f i := fun i hi => by rw [ef]; exact cn_out hp (fun j hj => by have := hf j hj; omega) hi
    refine ⟨fun i hi => ?_, (rc_one hp).mpr ⟨f, fun i hi => by have := hf i hi; omega, ef⟩⟩
    rw [ec i hi]
    have := hf i hi
    omega
  · obtain ⟨f, hf, ef⟩ := (rc_one hp).mp h
    have ec : cn 63 p c.natAbs i = f i := by rw [ef]; exact cn_out hp (fun j hj => by have := hf j hj; omega) hi
    have ec6 : cn 6 p c.natAbs i = f i := by rw [ef]; exact cn_out hp hf hi
    have eb6 : cn 6 p (bU n p e) i = fbE e i := by rw [b_PZ]; exact cn_out hp (fbE_le he) hi
    unfold frU frE
    rw [if_pos hi, rest_rc, rest_rc, ec]
    show min 0 (e i) + (f i : Int) = ((cn 6 p c.natAbs i : Nat) : Int) - ((cn 6 p (bU n p e) i : Nat) : Int)
    rw [ec6, eb6]
    unfold fbE
    omega
theorem ab_b {n : Nat} {p e : Nat → Int} {sg : Int} (hp : ∀ i, i < n → 2 ≤ p i) (hpr : prodZ p n ≤ 1000) (hs : sg = 1 ∨ sg = -1) (he : e6Z n e) : (aU n p e sg).natAbs ≤ 1000000000000000000 ∧ ¬ aU n p e sg = 0 ∧ 0 < bU n p e ∧ bU n p e ≤ 1000000000000000000 := by
  have h1 := side_b (p := p) (e := e) (Or.inl (rfl : (1 : Int) = 1)) n hp he
  have h2 := side_b (p := p) (e := e) (Or.inr (rfl : (-1 : Int) = -1)) n hp he
  have h3 := pow6_le (x := prodZ p n) (Int.le_of_lt (prodZ_pos _ (fun i hi => by have := hp i hi; omega))) hpr
  unfold aU bU
  rcases hs with e | e <;> rw [e] <;> omega
section sw_mate
variable {X : sw_X} {l : Launch} {d : Nat} {h : sw_H} {σ : SgZ}
theorem m_hasMate {n : Nat} {p bx e : Nat → Int} {sg : Int} (V : imB h n p bx) (kB : okB n p bx) (R : rwM h 9 n e) (he : e6Z n e) (hS : h.1 0 14 = zI sg) (hs : sg = 1 ∨ sg = -1) : sw_ct wM X l (d + 1) mX12_hasMate [.ref 0] h (sw_qI wM X fun r h2 => frM [10] [15] h h2 ∧ r = bI (frOK n p (bU n p e - aU n p e sg) (bU n p e)) ∧ (frOK n p (bU n p e - aU n p e sg) (bU n p e) = true → rwM h2 10 n (frU n p (bU n p e - aU n p e sg) (bU n p e)) ∧ h2.1 0 15 = zI (frS (bU n p e - aU n p e sg)))) := by
  have hn := kB.1
  have hp := copP_of kB
  have hpb : ∀ i, i < n → 2 ≤ p i ∧ p i ≤ 31 := fun i hi => (kB.2.1 i hi).2
  have b9 := ab_b hp.1 kB.2.2.2.1 hs he
  have he100 : ∀ i, i < n → -100 ≤ e i ∧ e i ≤ 100 := fun i hi => by have := he i hi; omega
  refine sw_ct_of (by decide +kernel) (Nat.le_of_ble_eq_true rfl) rfl ?_
  generalize hQ : (sw_qI wM X fun r h2 => frM [10] [15] h h2 ∧ r = bI (frOK n p (bU n p e - aU n p e sg) (bU n p e)) ∧ (frOK n p (bU n p e - aU n p e sg) (bU n p e) = true → rwM h2 10 n (frU n p (bU n p e - aU n p e sg) (bU n p e)) ∧ h2.1 0 15 = zI (frS (bU n p e - aU n p e sg)))) = Qc
  have loop : ¬ bU n p e - aU n p e sg = 0 → ∀ (c i : Nat) (g : sw_H), i + c = n → frM [10] [15] h g → g.1 0 15 = zI (frS (bU n p e - aU n p e sg)) → (∀ j, j < i → g.1 10 j = zI (min 0 (e j) + cn 63 p (bU n p e - aU n p e sg).natAbs j)) → (∀ j, j < i → min 0 (e j) + (cn 63 p (bU n p e - aU n p e sg).natAbs j : Int) ≤ 6) →
      sw_wp wM X l (d + 1) mX12_hasMate Qc 55 [(0, .ref 0), (1, .long (zL (rc 63 p i (bU n p e - aU n p e sg).natAbs))), (3, .int (zI i))] [] g := by
    intro hc c
    have me := mt_eq hp hs he hc
    have rb : ∀ i, i ≤ n → 0 < rc 63 p i (bU n p e - aU n p e sg).natAbs ∧ rc 63 p i (bU n p e - aU n p e sg).natAbs ≤ (bU n p e - aU n p e sg).natAbs := by
      intro i hi
      induction i with
      | zero => exact ⟨by show (0 : Int) < (bU n p e - aU n p e sg).natAbs; omega, Int.le_refl _⟩
      | succ i ih =>
        have h1 := ih (by omega)
        have h2 := divUp_pos (hp.1 i (by omega)) 63 h1.1
        show 0 < divUp (p i) 63 (rc 63 p i (bU n p e - aU n p e sg).natAbs) ∧ divUp (p i) 63 (rc 63 p i (bU n p e - aU n p e sg).natAbs) ≤ _
        omega
    induction c with
    | zero =>
      intro i g hi A gS g1 g2
      have : i = n := by omega
      subst this
      have r9 := rb i (Nat.le_refl _)
      have e0 : g.1 0 0 = zI i := by rw [A.2.2 0 (by decide)]; exact V.1
      subst hQ
      refine sw_iload_n 56 dX12_hasMate_55 rfl rfl rfl ?_
      refine sw_aload_n 57 dX12_hasMate_56 rfl rfl rfl ?_
      refine sw_getI 60 dX12_hasMate_57 rfl gf_RX12_83 rfl ⟨by decide, rfl⟩ ?_
      rw [e0]
      refine sw_icmp_ge 135 63 dX12_hasMate_60 (by decide) rfl (fun c60 => ?_) (fun c60 => ?_)
      · refine sw_lload_n 136 dX12_hasMate_135 rfl rfl rfl ?_
        refine sw_lconst (v := zL 1) 137 dX12_hasMate_136 rfl (by decide) ?_
        refine sw_lcmp 138 dX12_hasMate_137 rfl ?_
        refine sw_if_ne 145 141 dX12_hasMate_138 (by decide) rfl (fun c138 => ?_) (fun c138 => ?_)
        · refine sw_iconst (v := zI 0) 146 dX12_hasMate_145 rfl (by decide) ?_
          exact sw_zret (by first | exact Or.inl rfl | exact Or.inr rfl | assumption) dX12_hasMate_146 rfl (by
  rw [lc_eq, zL_eq (by omega) (by omega) (by omega) (by omega)] at c138
  have hf : ¬ frOK i p (bU i p e - aU i p e sg) (bU i p e) = true := fun hh => c138 (me.1.mpr hh).2
  rw [Bool.not_eq_true] at hf
  rw [hf]
  exact ⟨A, rfl, fun h => absurd h (by decide)⟩)
        · refine sw_iconst (v := zI 1) 142 dX12_hasMate_141 rfl (by decide) ?_
          refine sw_goto 146 dX12_hasMate_142 (by decide) ?_
          exact sw_zret (by first | exact Or.inl rfl | exact Or.inr rfl | assumption) dX12_hasMate_146 rfl (by
  rw [lc_eq, zL_eq (by omega) (by omega) (by omega) (by omega)] at c138
  have hf := me.1.mp ⟨g2, by omega⟩
  rw [hf]
  exact ⟨A, rfl, fun _ => ⟨fun j hj => by rw [g1 j hj, me.2 hf j hj], gS⟩⟩)
      · exact absurd (Int32.le_refl _) c60
    | succ c ih =>
      intro i g hi A gS g1 g2
      have hin := zI_inN (a := i) (n := 4) (by omega) (by decide)
      have hin5 := zI_inN (a := i) (n := 5) (by omega) (by decide)
      have r9 := rb i (by omega)
      have e0 : g.1 0 0 = zI n := by rw [A.2.2 0 (by decide)]; exact V.1
      have e9 : g.1 9 i = zI (e i) := by rw [A.1 9 (by decide) (by decide)]; exact R i (by omega)
      have e1 : g.1 1 i = zI (p i) := by rw [A.1 1 (by decide) (by decide)]; exact (V.2 i (by omega)).1
      have hq := hpb i (by omega)
      have hei := he i (by omega)
      have hz : ¬ zL (p i) = 0 := by rw [zL0, zL_eq (by omega) (by omega) (by omega) (by omega)]; omega
      -- q is taken out
      have inner : ∀ (m : Nat) (r : Int) (k : Nat) (G : Nat → Int32), 0 < r → r < 2 ^ m → r ≤ 2000000000000000000 → k + m = 63 → divUp (p i) m r = rc 63 p (i + 1) (bU n p e - aU n p e sg).natAbs → k + cntUp (p i) m r = cn 63 p (bU n p e - aU n p e sg).natAbs i → (∀ j, j ≠ i → G j = g.1 10 j) → G i = zI (min 0 (e i) + k) → sw_wp wM X l (d + 1) mX12_hasMate Qc 79 [(0, .ref 0), (1, .long (zL r)), (3, .int (zI i))] [] (sw_pI g 10 G) := by
        intro m
        induction m with
        | zero => intro r k G r0 r1; exact absurd r1 (by rw [Int.pow_zero]; omega)
        | succ m ihm =>
          intro r k G r0 r1 r2 hk hd hcn hG hGi
          have e1G : (sw_pI g 10 G).1 1 i = zI (p i) := by rw [sw_pI_ne (by decide)]; exact e1
          have hm0 : 0 ≤ r % p i := Int.emod_nonneg _ (by omega)
          have hm1 : r % p i < p i := Int.emod_lt_of_pos _ (by omega)
          have ld : divUp (p i) (m + 1) r = if r % p i = 0 then divUp (p i) m (r / p i) else r := rfl
          have lc9 : cntUp (p i) (m + 1) r = if r % p i = 0 then cntUp (p i) m (r / p i) + 1 else 0 := rfl
          have AG : frM [10] [15] h (sw_pI g 10 G) := frM_tr A (frM_pI (by decide) (by decide))
          refine sw_lload_n 80 dX12_hasMate_79 rfl rfl rfl ?_
          refine sw_aload_n 81 dX12_hasMate_80 rfl rfl rfl ?_
          refine sw_getR (b := 1) 84 dX12_hasMate_81 rfl gf_RX12_9 (fun _ _ _ _ => rfl) ⟨by decide, rfl⟩ rfl ?_
          refine sw_iload_n 85 dX12_hasMate_84 rfl rfl rfl ?_
          refine sw_iald 86 dX12_hasMate_85 rfl ⟨by decide, rfl⟩ (by assumption) ?_
          rw [zI_clampN (by omega), e1G]
          refine sw_i2l 87 dX12_hasMate_86 rfl ?_
          rw [zI_i2l (by omega) (by omega)]
          refine sw_lrem 88 dX12_hasMate_87 rfl (by first | assumption | decide) ?_
          rw [zL_rem (by omega) (by omega) (by omega) (by omega), Int.tmod_eq_emod_of_nonneg (by omega)]
          refine sw_lconst (v := zL 0) 89 dX12_hasMate_88 rfl (by decide) ?_
          refine sw_lcmp 90 dX12_hasMate_89 rfl ?_
          refine sw_if_ne 116 93 dX12_hasMate_90 (by decide) rfl (fun c90 => ?_) (fun c90 => ?_)
          · rw [lc_eq, zL_eq (by omega) (by omega) (by omega) (by omega)] at c90
            refine sw_aload_n 117 dX12_hasMate_116 rfl rfl rfl ?_
            refine sw_getR (b := 10) 120 dX12_hasMate_117 rfl gf_RX12_40 (fun _ _ _ _ => rfl) ⟨by decide, rfl⟩ rfl ?_
            refine sw_iload_n 121 dX12_hasMate_120 rfl rfl rfl ?_
            refine sw_iald 122 dX12_hasMate_121 rfl ⟨by decide, rfl⟩ (by assumption) ?_
            rw [zI_clampN (by omega), sw_pI_at, hGi]
            refine sw_bipush (v := zI 6) 124 dX12_hasMate_122 rfl (by decide) ?_
            refine sw_icmp_le 129 127 dX12_hasMate_124 (by decide) rfl (fun c124 => ?_) (fun c124 => ?_)
            · refine sw_iinc (v := zI 1) (lc' := [(0, _), (1, _), (3, _)]) 132 dX12_hasMate_129 rfl (by decide) rfl rfl rfl ?_
              refine sw_goto 55 dX12_hasMate_132 (by decide) ?_
              rw [zI_le (by omega) (by omega) (by omega) (by omega)] at c124
              rw [if_neg c90] at ld lc9
              rw [ld] at hd
              rw [lc9] at hcn
              rw [zI_add, hd]
              refine ih (i + 1) _ (by omega) AG (by rw [sw_pI_ne (by decide)]; exact gS) (fun j hj => ?_) (fun j hj => ?_)
              · rw [sw_pI_at]
                by_cases ej : j = i
                · rw [ej, hGi, ← hcn]; rfl
                · rw [hG j ej]; exact g1 j (by omega)
              · by_cases ej : j = i
                · rw [ej, ← hcn]; omega
                · exact g2 j (by omega)
            · subst hQ
              refine sw_iconst (v := zI 0) 128 dX12_hasMate_127 rfl (by decide) ?_
              exact sw_zret (by first | exact Or.inl rfl | exact Or.inr rfl | assumption) dX12_hasMate_128 rfl (by
  rw [zI_le (by omega) (by omega) (by omega) (by omega)] at c124
  rw [if_neg c90] at lc9
  rw [lc9] at hcn
  have hf : ¬ frOK n p (bU n p e - aU n p e sg) (bU n p e) = true := fun hh => by
    have := (me.1.mpr hh).1 i (by omega)
    rw [← hcn] at this; omega
  rw [Bool.not_eq_true] at hf
  rw [hf]
  exact ⟨AG, rfl, fun h => absurd h (by decide)⟩)
          · rw [lc_eq, zL_eq (by omega) (by omega) (by omega) (by omega)] at c90
            refine sw_lload_n 94 dX12_hasMate_93 rfl rfl rfl ?_
            refine sw_aload_n 95 dX12_hasMate_94 rfl rfl rfl ?_
            refine sw_getR (b := 1) 98 dX12_hasMate_95 rfl gf_RX12_9 (fun _ _ _ _ => rfl) ⟨by decide, rfl⟩ rfl ?_
            refine sw_iload_n 99 dX12_hasMate_98 rfl rfl rfl ?_
            refine sw_iald 100 dX12_hasMate_99 rfl ⟨by decide, rfl⟩ (by assumption) ?_
            rw [zI_clampN (by omega), e1G]
            refine sw_i2l 101 dX12_hasMate_100 rfl ?_
            rw [zI_i2l (by omega) (by omega)]
            refine sw_ldiv 102 dX12_hasMate_101 rfl (by first | assumption | decide) ?_
            rw [zL_div (by omega) (by omega) (by omega) (by omega), Int.tdiv_eq_ediv_of_nonneg (by omega)]
            refine sw_lstore_n (lc' := [(0, _), (1, _), (3, _)]) 103 dX12_hasMate_102 rfl rfl (by decide) rfl ?_
            refine sw_aload_n 104 dX12_hasMate_103 rfl rfl rfl ?_
            refine sw_getR (b := 10) 107 dX12_hasMate_104 rfl gf_RX12_40 (fun _ _ _ _ => rfl) ⟨by decide, rfl⟩ rfl ?_
            refine sw_iload_n 108 dX12_hasMate_107 rfl rfl rfl ?_
            refine sw_dup2 109 dX12_hasMate_108 rfl rfl rfl ?_
            refine sw_iald 110 dX12_hasMate_109 rfl ⟨by decide, rfl⟩ (by assumption) ?_
            rw [zI_clampN (by omega), sw_pI_at, hGi]
            refine sw_iconst (v := zI 1) 111 dX12_hasMate_110 rfl (by decide) ?_
            refine sw_iadd 112 dX12_hasMate_111 rfl ?_
            refine sw_iast 113 dX12_hasMate_112 rfl ⟨by decide, rfl⟩ (by assumption) ?_
            refine sw_goto 79 dX12_hasMate_113 (by decide) ?_
            rw [zI_clampN (by omega), sw_wI_pI, zI_add]
            rw [if_pos c90] at ld lc9
            have dp := ediv_pos' r0 (show 2 ≤ p i by omega) c90
            refine ihm (r / p i) (k + 1) _ dp.1 ?_ (by omega) (by omega) (by rw [← hd, ld]) (by rw [← hcn, lc9]; omega) (fun j hj => ?_) ?_
            · have h1 : r / p i * p i = r := Int.ediv_mul_cancel (Int.dvd_of_emod_eq_zero c90)
              have h2 : r / p i * 2 ≤ r / p i * p i := Int.mul_le_mul_of_nonneg_left (by omega) (by omega)
              rw [Int.pow_succ] at r1
              omega
            · unfold va_up; rw [if_neg hj]; exact hG j hj
            · unfold va_up; rw [if_pos rfl]; congr 1; omega
      refine sw_iload_n 56 dX12_hasMate_55 rfl rfl rfl ?_
      refine sw_aload_n 57 dX12_hasMate_56 rfl rfl rfl ?_
      refine sw_getI 60 dX12_hasMate_57 rfl gf_RX12_83 rfl ⟨by decide, rfl⟩ ?_
      rw [e0]
      refine sw_icmp_ge 135 63 dX12_hasMate_60 (by decide) rfl (fun c60 => ?_) (fun c60 => ?_)
      · exact absurd c60 (by rw [zI_le (by omega) (by omega) (by omega) (by omega)]; omega)
      · refine sw_aload_n 64 dX12_hasMate_63 rfl rfl rfl ?_
        refine sw_getR (b := 10) 67 dX12_hasMate_64 rfl gf_RX12_40 (fun _ _ _ _ => rfl) ⟨by decide, rfl⟩ rfl ?_
        refine sw_iload_n 68 dX12_hasMate_67 rfl rfl rfl ?_
        refine sw_iconst (v := zI 0) 69 dX12_hasMate_68 rfl (by decide) ?_
        refine sw_aload_n 70 dX12_hasMate_69 rfl rfl rfl ?_
        refine sw_getR (b := 9) 73 dX12_hasMate_70 rfl gf_RX12_37 (fun _ _ _ _ => rfl) ⟨by decide, rfl⟩ rfl ?_
        refine sw_iload_n 74 dX12_hasMate_73 rfl rfl rfl ?_
        refine sw_iald 75 dX12_hasMate_74 rfl ⟨by decide, rfl⟩ (by assumption) ?_
        rw [zI_clampN (by omega), e9]
        refine sw_invSI 78 dX12_hasMate_75 rfl lk_RX12_123 (c_minZ (by omega) (by omega) (by omega) (by omega)) rfl rfl (Nat.le_of_ble_eq_true rfl) (fun r75 h75 hq75 => ?_)
        obtain ⟨rfl, rfl⟩ := hq75
        refine sw_iast 79 dX12_hasMate_78 rfl ⟨by decide, rfl⟩ (by assumption) ?_
        rw [zI_clampN (by omega), sw_wI_p]
        refine inner 63 _ 0 _ r9.1 ?_ (by omega) (by omega) rfl (by rw [Nat.zero_add]; rfl) (fun j hj => by unfold va_up; rw [if_neg hj]) (by unfold va_up; rw [if_pos rfl]; congr 1; omega)
        have : (2 : Int) ^ 63 = 9223372036854775808 := by decide
        omega
  have ea : sg * sideZ p e 1 n = aU n p e sg := rfl
  have eb : sideZ p e (-1) n = bU n p e := rfl
  refine sw_aload_n 1 dX12_hasMate_0 rfl rfl rfl ?_
  refine sw_aload_n 2 dX12_hasMate_1 rfl rfl rfl ?_
  refine sw_getR (b := 9) 5 dX12_hasMate_2 rfl gf_RX12_37 (fun _ _ _ _ => rfl) ⟨by decide, rfl⟩ rfl ?_
  refine sw_invVL 8 dX12_hasMate_5 rfl lk_RX12_112 (m_belowOf V hn hpb r9 R he100) ⟨by decide, rfl⟩ rfl rfl (Nat.le_of_ble_eq_true rfl) (fun r5 h5 hq5 => ?_)
  obtain ⟨rfl, rfl⟩ := hq5
  refine sw_aload_n 9 dX12_hasMate_8 rfl rfl rfl ?_
  refine sw_aload_n 10 dX12_hasMate_9 rfl rfl rfl ?_
  refine sw_getR (b := 9) 13 dX12_hasMate_10 rfl gf_RX12_37 (fun _ _ _ _ => rfl) ⟨by decide, rfl⟩ rfl ?_
  refine sw_aload_n 14 dX12_hasMate_13 rfl rfl rfl ?_
  refine sw_getI 17 dX12_hasMate_14 rfl gf_RX12_109 rfl ⟨by decide, rfl⟩ ?_
  rw [hS]
  refine sw_invVL 20 dX12_hasMate_17 rfl lk_RX12_116 (m_aboveOf V hn hpb r9 R he100 hs) ⟨by decide, rfl⟩ rfl rfl (Nat.le_of_ble_eq_true rfl) (fun r17 h17 hq17 => ?_)
  obtain ⟨rfl, rfl⟩ := hq17
  rw [ea, eb]
  refine sw_lsub 21 dX12_hasMate_20 rfl ?_
  rw [zL_sub]
  refine sw_lstore_n (lc' := [(0, _), (1, _)]) 22 dX12_hasMate_21 rfl rfl (by decide) rfl ?_
  refine sw_lload_n 23 dX12_hasMate_22 rfl rfl rfl ?_
  refine sw_lconst (v := zL 0) 24 dX12_hasMate_23 rfl (by decide) ?_
  refine sw_lcmp 25 dX12_hasMate_24 rfl ?_
  refine sw_if_ne 30 28 dX12_hasMate_25 (by decide) rfl (fun c25 => ?_) (fun c25 => ?_)
  · rw [lc_eq, zL_eq (by omega) (by omega) (by omega) (by omega)] at c25
    refine sw_aload_n 31 dX12_hasMate_30 rfl rfl rfl ?_
    refine sw_lload_n 32 dX12_hasMate_31 rfl rfl rfl ?_
    refine sw_lconst (v := zL 0) 33 dX12_hasMate_32 rfl (by decide) ?_
    refine sw_lcmp 34 dX12_hasMate_33 rfl ?_
    refine sw_if_ge 41 37 dX12_hasMate_34 (by decide) rfl (fun c34 => ?_) (fun c34 => ?_)
    · rw [lc_ge, zL_le (by omega) (by omega) (by omega) (by omega)] at c34
      refine sw_iconst (v := zI 1) 42 dX12_hasMate_41 rfl (by decide) ?_
      refine sw_putI 45 dX12_hasMate_42 rfl pf_RX12_120 rfl ⟨by decide, rfl⟩ ?_
      refine sw_lload_n 46 dX12_hasMate_45 rfl rfl rfl ?_
      refine sw_aload_n 47 dX12_hasMate_46 rfl rfl rfl ?_
      refine sw_getI 50 dX12_hasMate_47 rfl gf_RX12_120 rfl ⟨by decide, rfl⟩ ?_
      refine sw_i2l 51 dX12_hasMate_50 rfl ?_
      refine sw_lmul 52 dX12_hasMate_51 rfl ?_
      refine sw_lstore_n (lc' := [(0, _), (1, _)]) 53 dX12_hasMate_52 rfl rfl (by decide) rfl ?_
      refine sw_iconst (v := zI 0) 54 dX12_hasMate_53 rfl (by decide) ?_
      refine sw_istore_n (lc' := [(0, _), (1, _), (3, _)]) 55 dX12_hasMate_54 rfl rfl (by decide) rfl ?_
      rw [show (sw_wI h17 0 15 (zI 1)).1 0 15 = zI 1 from by rw [sw_wI_at]; simp [va_up], zI_i2l (by omega) (by omega), zL_mul, show (bU n p e - aU n p e sg) * 1 = ((bU n p e - aU n p e sg).natAbs : Int) by omega]
      exact loop c25 n 0 _ (by omega) (frM_w0 (by decide)) (by rw [sw_wI_at]; unfold frS; rw [if_neg (by omega)]; simp [va_up]) (fun j hj => absurd hj (Nat.not_lt_zero j)) (fun j hj => absurd hj (Nat.not_lt_zero j))
    · rw [lc_ge, zL_le (by omega) (by omega) (by omega) (by omega)] at c34
      refine sw_iconst (v := zI (-1)) 38 dX12_hasMate_37 rfl (by decide) ?_
      refine sw_goto 42 dX12_hasMate_38 (by decide) ?_
      refine sw_putI 45 dX12_hasMate_42 rfl pf_RX12_120 rfl ⟨by decide, rfl⟩ ?_
      refine sw_lload_n 46 dX12_hasMate_45 rfl rfl rfl ?_
      refine sw_aload_n 47 dX12_hasMate_46 rfl rfl rfl ?_
      refine sw_getI 50 dX12_hasMate_47 rfl gf_RX12_120 rfl ⟨by decide, rfl⟩ ?_
      refine sw_i2l 51 dX12_hasMate_50 rfl ?_
      refine sw_lmul 52 dX12_hasMate_51 rfl ?_
      refine sw_lstore_n (lc' := [(0, _), (1, _)]) 53 dX12_hasMate_52 rfl rfl (by decide) rfl ?_
      refine sw_iconst (v := zI 0) 54 dX12_hasMate_53 rfl (by decide) ?_
      refine sw_istore_n (lc' := [(0, _), (1, _), (3, _)]) 55 dX12_hasMate_54 rfl rfl (by decide) rfl ?_
      rw [show (sw_wI h17 0 15 (zI (-1))).1 0 15 = zI (-1) from by rw [sw_wI_at]; simp [va_up], zI_i2l (by omega) (by omega), zL_mul, show (bU n p e - aU n p e sg) * -1 = ((bU n p e - aU n p e sg).natAbs : Int) by omega]
      exact loop c25 n 0 _ (by omega) (frM_w0 (by decide)) (by rw [sw_wI_at]; unfold frS; rw [if_pos (by omega)]; simp [va_up]) (fun j hj => absurd hj (Nat.not_lt_zero j)) (fun j hj => absurd hj (Nat.not_lt_zero j))
  · rw [lc_eq, zL_eq (by omega) (by omega) (by omega) (by omega)] at c25
    subst hQ
    refine sw_iconst (v := zI 0) 29 dX12_hasMate_28 rfl (by decide) ?_
    exact sw_zret (by first | exact Or.inl rfl | exact Or.inr rfl | assumption) dX12_hasMate_29 rfl (by
  have hf : frOK n p (bU n p e - aU n p e sg) (bU n p e) = false := by unfold frOK; rw [decide_eq_false]; intro hh; exact hh.1 c25
  rw [hf]; exact ⟨frM_rf, rfl, fun h => absurd h (by decide)⟩)
end sw_mate
