/-! THE REFERENCE, 7: form, forms, count -/
theorem likeE_iff {a b c : Int} {k : Nat} : ∀ m j, likeE a b c k m j = true ↔ ∃ t, j ≤ t ∧ t < j + m ∧ formA a b c t = formA a b c k ∧ formB a b c t = formB a b c k
  | 0, j => ⟨fun h => absurd (show false = true from h) (by decide), fun ⟨t, h1, h2, _⟩ => by omega⟩
  | m + 1, j => by
    unfold likeE
    by_cases e : formA a b c j = formA a b c k ∧ formB a b c j = formB a b c k
    · rw [if_pos e]; exact ⟨fun _ => ⟨j, by omega, by omega, e⟩, fun _ => rfl⟩
    · rw [if_neg e, likeE_iff m (j + 1)]
      refine ⟨fun ⟨t, h1, h2, h3⟩ => ⟨t, by omega, by omega, h3⟩, fun ⟨t, h1, h2, h3⟩ => ?_⟩
      by_cases ej : t = j
      · subst ej; exact absurd h3 e
      · exact ⟨t, by omega, by omega, h3⟩
theorem unlikeN_le (a b c : Int) : ∀ k, unlikeN a b c k ≤ k
  | 0 => Nat.le_refl 0
  | k + 1 => by have := unlikeN_le a b c k; unfold unlikeN; split <;> omega
def metB (SA SB : Nat → Int) (A B : Int) : Nat → Bool
  | 0 => false
  | j + 1 => metB SA SB A B j || decide (SA j = A ∧ SB j = B)
theorem metB_iff {SA SB : Nat → Int} {A B : Int} : ∀ j, metB SA SB A B j = true ↔ ∃ t, t < j ∧ SA t = A ∧ SB t = B
  | 0 => ⟨fun h => absurd (show false = true from h) (by decide), fun ⟨t, h1, _⟩ => absurd h1 (Nat.not_lt_zero t)⟩
  | j + 1 => by
    unfold metB
    rw [Bool.or_eq_true, metB_iff j, decide_eq_true_iff]
    refine ⟨fun h => ?_, fun ⟨t, h1, h2⟩ => ?_⟩
    · rcases h with ⟨t, h1, h2⟩ | h
      · exact ⟨t, by omega, h2⟩
      · exact ⟨j, by omega, h⟩
    · by_cases e : t = j
      · subst e; exact Or.inr h2
      · exact Or.inl ⟨t, by omega, h2⟩
section sw_m7
variable {X : sw_X} {l : Launch} {d : Nat} {h : sw_H} {σ : SgZ}
theorem m_form (K : okS σ) (I : IM h σ) {s k to : Int} (s1 : -2147483648 ≤ s) (s2 : s < 2147483648) (k1 : -2147483648 ≤ k) (k2 : k < 2147483648) (t1 : -2147483648 ≤ to) (t2 : to < 2147483648) : sw_ct wM X l (d + 2) mX12_form [.ref 0, .int (zI s), .int (zI k), .int (zI to)] h (sw_qI wM X fun r h2 => IM h2 (opForm σ s k to).2 ∧ r = zI (opForm σ s k to).1) := by
  have hp := copP_of K.1.1
  refine sw_ct_of (by decide +kernel) (Nat.le_of_ble_eq_true rfl) rfl ?_
  refine sw_iload_n 1 dX12_form_0 rfl rfl rfl ?_
  refine sw_invSI 4 dX12_form_1 rfl lk_RX12_132 (m_isShelf s1 s2) rfl rfl (Nat.le_of_ble_eq_true rfl) (fun r1 h1 hq1 => ?_)
  obtain ⟨rfl, rfl⟩ := hq1
  refine sw_if_eq 23 7 dX12_form_4 (by decide) rfl (fun c4 => ?_) (fun c4 => ?_)
  · refine sw_iconst (v := zI (-1)) 24 dX12_form_23 rfl (by decide) ?_
    exact sw_iret dX12_form_24 rfl (by
  rw [ifz_eq] at c4
  unfold opForm; rw [if_neg (fun hh => c4 hh.1)]; exact ⟨I, rfl⟩)
  · rw [ifz_eq, Decidable.not_not] at c4
    refine sw_iload_n 8 dX12_form_7 rfl rfl rfl ?_
    refine sw_invSI 11 dX12_form_8 rfl lk_RX12_132 (m_isShelf t1 t2) rfl rfl (Nat.le_of_ble_eq_true rfl) (fun r8 h8 hq8 => ?_)
    obtain ⟨rfl, rfl⟩ := hq8
    refine sw_if_eq 23 14 dX12_form_11 (by decide) rfl (fun c11 => ?_) (fun c11 => ?_)
    · refine sw_iconst (v := zI (-1)) 24 dX12_form_23 rfl (by decide) ?_
      exact sw_iret dX12_form_24 rfl (by
  rw [ifz_eq] at c11
  unfold opForm; rw [if_neg (fun hh => c11 hh.2.1)]; exact ⟨I, rfl⟩)
    · rw [ifz_eq, Decidable.not_not] at c11
      refine sw_iload_n 15 dX12_form_14 rfl rfl rfl ?_
      refine sw_iconst (v := zI 0) 16 dX12_form_15 rfl (by decide) ?_
      refine sw_iconst (v := zI 5) 17 dX12_form_16 rfl (by decide) ?_
      refine sw_invSI 20 dX12_form_17 rfl lk_RX12_87 (c_in k1 k2 (by decide) (by decide) (by decide) (by decide)) rfl rfl (Nat.le_of_ble_eq_true rfl) (fun r17 h17 hq17 => ?_)
      obtain ⟨rfl, rfl⟩ := hq17
      refine sw_if_ne 25 23 dX12_form_20 (by decide) rfl (fun c20 => ?_) (fun c20 => ?_)
      · rw [ifz_eq, Decidable.not_not] at c20
        obtain ⟨a, rfl⟩ := Int.eq_ofNat_of_zero_le c4.1
        obtain ⟨c, rfl⟩ := Int.eq_ofNat_of_zero_le c11.1
        obtain ⟨m, rfl⟩ := Int.eq_ofNat_of_zero_le c20.1
        have ha : a < 4 := by omega
        have hc : c < 4 := by omega
        have hm : m < 6 := by omega
        have he : e6Z σ.1.1.1 (σ.1.2.1.2 a) := fun i hi => e6 K ha hi
        refine sw_aload_n 26 dX12_form_25 rfl rfl rfl ?_
        refine sw_iload_n 27 dX12_form_26 rfl rfl rfl ?_
        refine sw_invVV 30 dX12_form_27 rfl lk_RX12_137 (m_looks K I ha) ⟨by decide, rfl⟩ rfl rfl (Nat.le_of_ble_eq_true rfl) (fun h27 hq27 => ?_)
        obtain ⟨A, R, S⟩ := hq27
        have I2 := IM_fr I A (by decide) (by decide)
        refine sw_aload_n 31 dX12_form_30 rfl rfl rfl ?_
        refine sw_invVI 34 dX12_form_31 rfl lk_RX12_160 (m_hasMate I2.1 K.1.1 R he S (K.1.2.1 a ha).1) ⟨by decide, rfl⟩ rfl rfl (Nat.le_of_ble_eq_true rfl) (fun r31 h31 hq31 => ?_)
        obtain ⟨B, rfl, M⟩ := hq31
        have I3 := IM_fr I2 B (by decide) (by decide)
        have em : frOK σ.1.1.1 σ.1.1.2.1 (bU σ.1.1.1 σ.1.1.2.1 (σ.1.2.1.2 a) - aU σ.1.1.1 σ.1.1.2.1 (σ.1.2.1.2 a) (σ.1.2.1.1 a)) (bU σ.1.1.1 σ.1.1.2.1 (σ.1.2.1.2 a)) = mtOK σ a := rfl
        refine sw_if_eq 45 37 dX12_form_34 (by decide) rfl (fun c34 => ?_) (fun c34 => ?_)
        · refine sw_bipush (v := zI (-5)) 47 dX12_form_45 rfl (by decide) ?_
          exact sw_iret dX12_form_47 rfl (by
  rw [bIz_eq] at c34
  unfold opForm; rw [if_pos ⟨c4, c11, by omega⟩, if_neg (by rw [show mtOK σ ((a : Nat) : Int).toNat = false from c34]; decide)]; exact ⟨I3, rfl⟩)
        · rw [bIz_eq, Bool.not_eq_false] at c34
          obtain ⟨M1, M2⟩ := M c34
          have F := form_tri hp (K.1.2.1 a ha).1 he c34 hm
          refine sw_aload_n 38 dX12_form_37 rfl rfl rfl ?_
          refine sw_iload_n 39 dX12_form_38 rfl rfl rfl ?_
          refine sw_invVI 42 dX12_form_39 rfl lk_RX12_164 (m_hasForm I3.1 K.1.1.1 (rwM_fr R B (by decide) (by decide)) M1 (by rw [B.2.2 14 (by decide)]; exact S) M2 he (fun i hi => by have := frU_b σ.1.1.1 σ.1.1.2.1 (bU σ.1.1.1 σ.1.1.2.1 (σ.1.2.1.2 a) - aU σ.1.1.1 σ.1.1.2.1 (σ.1.2.1.2 a) (σ.1.2.1.1 a)) (bU σ.1.1.1 σ.1.1.2.1 (σ.1.2.1.2 a)) i; exact ⟨this.1, this.2.1⟩) hm F.2.2.2.1) ⟨by decide, rfl⟩ rfl rfl (Nat.le_of_ble_eq_true rfl) (fun r39 h39 hq39 => ?_)
          obtain ⟨C, rfl, N1, N2⟩ := hq39
          have I4 := IM_fr I3 C (by decide) (by decide)
          rw [← F.2.1] at N2
          have N3 : rwM h39 11 σ.1.1.1 (frU σ.1.1.1 σ.1.1.2.1 (fmA σ a m) (fmB σ a m)) := fun i hi => by rw [N1 i hi]; congr 1; exact (F.2.2.1 i hi).symm
          refine sw_if_ne 48 45 dX12_form_42 (by decide) rfl (fun c42 => ?_) (fun c42 => ?_)
          · refine sw_aload_n 49 dX12_form_48 rfl rfl rfl ?_
            refine sw_iload_n 50 dX12_form_49 rfl rfl rfl ?_
            refine sw_aload_n 51 dX12_form_50 rfl rfl rfl ?_
            refine sw_getR (b := 11) 54 dX12_form_51 rfl gf_RX12_43 (fun _ _ _ _ => rfl) ⟨by decide, rfl⟩ rfl ?_
            refine sw_aload_n 55 dX12_form_54 rfl rfl rfl ?_
            refine sw_getI 58 dX12_form_55 rfl gf_RX12_129 rfl ⟨by decide, rfl⟩ ?_
            rw [N2]
            refine sw_invVV 61 dX12_form_58 rfl lk_RX12_152 (m_gets K I4 hc r11 (by decide) (by decide) N3) ⟨by decide, rfl⟩ rfl rfl (Nat.le_of_ble_eq_true rfl) (fun h58 hq58 => ?_)
            obtain ⟨I5, -⟩ := hq58
            refine sw_iconst (v := zI 1) 62 dX12_form_61 rfl (by decide) ?_
            exact sw_iret dX12_form_62 rfl (by
  unfold opForm; rw [if_pos ⟨c4, c11, by omega⟩, if_pos (show mtOK σ ((a : Nat) : Int).toNat = true from c34), if_pos (show frOK σ.1.1.1 σ.1.1.2.1 (fmA σ ((a : Nat) : Int).toNat ((m : Nat) : Int).toNat) (fmB σ ((a : Nat) : Int).toNat ((m : Nat) : Int).toNat) = true from F.1)]; exact ⟨I5, rfl⟩)
          · exact absurd c42 (by decide)
      · refine sw_iconst (v := zI (-1)) 24 dX12_form_23 rfl (by decide) ?_
        exact sw_iret dX12_form_24 rfl (by
  rw [ifz_eq] at c20
  unfold opForm; rw [if_neg (by omega)]; exact ⟨I, rfl⟩)
theorem forms_in {n u : Nat} {p bx x SA SB : Nat → Int} {sx : Int} {v1 v3 : Int32} {Qc : sw_Q} (V : imB h n p bx) (kB : okB n p bx) (N1 : rwM h 11 n x) (xb : e6Z n x) (N2 : h.1 0 16 = zI sx) (hs : sx = 1 ∨ sx = -1) (hu : u ≤ 6) (H : ∀ j, j < u → h.2 12 j = zL (SA j) ∧ h.2 13 j = zL (SB j) ∧ (SA j).natAbs < 4611686018427387904 ∧ (SB j).natAbs < 4611686018427387904)
    (kont : sw_wp wM X l (d + 2) mX12_forms Qc 117 [(0, .ref 0), (1, .int v1), (2, .int (zI u)), (3, .int v3), (4, .int (bI (metB SA SB (aU n p x sx) (bU n p x) u))), (5, .int (zI u))] [] h) :
    ∀ (c j : Nat), j + c = u → sw_wp wM X l (d + 2) mX12_forms Qc 51 [(0, .ref 0), (1, .int v1), (2, .int (zI u)), (3, .int v3), (4, .int (bI (metB SA SB (aU n p x sx) (bU n p x) j))), (5, .int (zI j))] [] h := by
  have hn := kB.1
  have hpb : ∀ i, i < n → 2 ≤ p i ∧ p i ≤ 31 := fun i hi => (kB.2.1 i hi).2
  have b9 := ab_b (fun i hi => (hpb i hi).1) kB.2.2.2.1 hs xb
  have x100 : ∀ i, i < n → -100 ≤ x i ∧ x i ≤ 100 := fun i hi => by have := xb i hi; omega
  have ea : sx * sideZ p x 1 n = aU n p x sx := rfl
  have eb : sideZ p x (-1) n = bU n p x := rfl
  generalize hA : aU n p x sx = A at b9 kont ea
  generalize hB : bU n p x = B at b9 kont eb
  intro c
  induction c with
  | zero =>
    intro j hj
    have : j = u := by omega
    subst this
    refine sw_iload 53 dX12_forms_51 rfl rfl ?_
    refine sw_iload_n 54 dX12_forms_53 rfl rfl rfl ?_
    refine sw_icmp_ge 117 57 dX12_forms_54 (by decide) rfl (fun c54 => ?_) (fun c54 => ?_)
    · exact kont
    · exact absurd (Int32.le_refl _) c54
  | succ c ih =>
    intro j hj
    have hin := zI_inN (a := j) (n := 6) (by omega) (by decide)
    have hj9 := H j (by omega)
    have le : metB SA SB A B (j + 1) = (metB SA SB A B j || decide (SA j = A ∧ SB j = B)) := rfl
    have i9 := ih (j + 1) (by omega)
    refine sw_iload 53 dX12_forms_51 rfl rfl ?_
    refine sw_iload_n 54 dX12_forms_53 rfl rfl rfl ?_
    refine sw_icmp_ge 117 57 dX12_forms_54 (by decide) rfl (fun c54 => ?_) (fun c54 => ?_)
    · exact absurd c54 (by rw [zI_le (by omega) (by omega) (by omega) (by omega)]; omega)
    · refine sw_iload 59 dX12_forms_57 rfl rfl ?_
      refine sw_if_ne 104 62 dX12_forms_59 (by decide) rfl (fun c59 => ?_) (fun c59 => ?_)
      · refine sw_iconst (v := zI 1) 105 dX12_forms_104 rfl (by decide) ?_
        refine sw_goto 109 dX12_forms_105 (by decide) ?_
        refine sw_istore (lc' := [(0, _), (1, _), (2, _), (3, _), (4, _), (5, _)]) 111 dX12_forms_109 rfl (by decide) rfl ?_
        refine sw_iinc (v := zI 1) (lc' := [(0, _), (1, _), (2, _), (3, _), (4, _), (5, _)]) 114 dX12_forms_111 rfl (by decide) rfl rfl rfl ?_
        refine sw_goto 51 dX12_forms_114 (by decide) ?_
        rw [bIz_eq, Bool.not_eq_false] at c59
        rw [zI_add]
        have e9 : metB SA SB A B (j + 1) = true := by rw [le, c59, Bool.true_or]
        rw [e9] at i9; exact i9
      · rw [bIz_eq] at c59
        refine sw_aload_n 63 dX12_forms_62 rfl rfl rfl ?_
        refine sw_getR (b := 12) 66 dX12_forms_63 rfl gf_RX12_46 (fun _ _ _ _ => rfl) ⟨by decide, rfl⟩ rfl ?_
        refine sw_iload 68 dX12_forms_66 rfl rfl ?_
        refine sw_lald 69 dX12_forms_68 rfl ⟨by decide, rfl⟩ (by assumption) ?_
        rw [zI_clampN (by omega), hj9.1]
        refine sw_aload_n 70 dX12_forms_69 rfl rfl rfl ?_
        refine sw_aload_n 71 dX12_forms_70 rfl rfl rfl ?_
        refine sw_getR (b := 11) 74 dX12_forms_71 rfl gf_RX12_43 (fun _ _ _ _ => rfl) ⟨by decide, rfl⟩ rfl ?_
        refine sw_aload_n 75 dX12_forms_74 rfl rfl rfl ?_
        refine sw_getI 78 dX12_forms_75 rfl gf_RX12_129 rfl ⟨by decide, rfl⟩ ?_
        rw [N2]
        refine sw_invVL 81 dX12_forms_78 rfl lk_RX12_116 (m_aboveOf V hn hpb r11 N1 x100 hs) ⟨by decide, rfl⟩ rfl rfl (Nat.le_of_ble_eq_true rfl) (fun r78 h78 hq78 => ?_)
        obtain ⟨rfl, rfl⟩ := hq78
        rw [ea]
        refine sw_lcmp 82 dX12_forms_81 rfl ?_
        refine sw_if_ne 108 85 dX12_forms_82 (by decide) rfl (fun c82 => ?_) (fun c82 => ?_)
        · rw [lc_eq, zL_eq (by omega) (by omega) (by omega) (by omega)] at c82
          refine sw_iconst (v := zI 0) 109 dX12_forms_108 rfl (by decide) ?_
          refine sw_istore (lc' := [(0, _), (1, _), (2, _), (3, _), (4, _), (5, _)]) 111 dX12_forms_109 rfl (by decide) rfl ?_
          refine sw_iinc (v := zI 1) (lc' := [(0, _), (1, _), (2, _), (3, _), (4, _), (5, _)]) 114 dX12_forms_111 rfl (by decide) rfl rfl rfl ?_
          refine sw_goto 51 dX12_forms_114 (by decide) ?_
          rw [zI_add]
          have e9 : metB SA SB A B (j + 1) = false := by rw [le, c59, decide_eq_false (fun hh => c82 hh.1)]; rfl
          rw [e9] at i9; exact i9
        · rw [lc_eq, zL_eq (by omega) (by omega) (by omega) (by omega)] at c82
          refine sw_aload_n 86 dX12_forms_85 rfl rfl rfl ?_
          refine sw_getR (b := 13) 89 dX12_forms_86 rfl gf_RX12_49 (fun _ _ _ _ => rfl) ⟨by decide, rfl⟩ rfl ?_
          refine sw_iload 91 dX12_forms_89 rfl rfl ?_
          refine sw_lald 92 dX12_forms_91 rfl ⟨by decide, rfl⟩ (by assumption) ?_
          rw [zI_clampN (by omega), hj9.2.1]
          refine sw_aload_n 93 dX12_forms_92 rfl rfl rfl ?_
          refine sw_aload_n 94 dX12_forms_93 rfl rfl rfl ?_
          refine sw_getR (b := 11) 97 dX12_forms_94 rfl gf_RX12_43 (fun _ _ _ _ => rfl) ⟨by decide, rfl⟩ rfl ?_
          refine sw_invVL 100 dX12_forms_97 rfl lk_RX12_112 (m_belowOf V hn hpb r11 N1 x100) ⟨by decide, rfl⟩ rfl rfl (Nat.le_of_ble_eq_true rfl) (fun r97 h97 hq97 => ?_)
          obtain ⟨rfl, rfl⟩ := hq97
          rw [eb]
          refine sw_lcmp 101 dX12_forms_100 rfl ?_
          refine sw_if_ne 108 104 dX12_forms_101 (by decide) rfl (fun c101 => ?_) (fun c101 => ?_)
          · skip
            refine sw_iconst (v := zI 0) 109 dX12_forms_108 rfl (by decide) ?_
            refine sw_istore (lc' := [(0, _), (1, _), (2, _), (3, _), (4, _), (5, _)]) 111 dX12_forms_109 rfl (by decide) rfl ?_
            refine sw_iinc (v := zI 1) (lc' := [(0, _), (1, _), (2, _), (3, _), (4, _), (5, _)]) 114 dX12_forms_111 rfl (by decide) rfl rfl rfl ?_
            refine sw_goto 51 dX12_forms_114 (by decide) ?_
            rw [lc_eq, zL_eq (by omega) (by omega) (by omega) (by omega)] at c101
            rw [zI_add]
            first
            | (have e9 : metB SA SB A B (j + 1) = true := by rw [le, decide_eq_true ⟨c82, c101⟩, Bool.or_true]
               rw [e9] at i9; exact i9)
            | (have e9 : metB SA SB A B (j + 1) = false := by rw [le, c59, decide_eq_false (fun hh => c101 hh.2)]; rfl
               rw [e9] at i9; exact i9)
          · refine sw_iconst (v := zI 1) 105 dX12_forms_104 rfl (by decide) ?_
            refine sw_goto 109 dX12_forms_105 (by decide) ?_
            refine sw_istore (lc' := [(0, _), (1, _), (2, _), (3, _), (4, _), (5, _)]) 111 dX12_forms_109 rfl (by decide) rfl ?_
            refine sw_iinc (v := zI 1) (lc' := [(0, _), (1, _), (2, _), (3, _), (4, _), (5, _)]) 114 dX12_forms_111 rfl (by decide) rfl rfl rfl ?_
            refine sw_goto 51 dX12_forms_114 (by decide) ?_
            rw [lc_eq, zL_eq (by omega) (by omega) (by omega) (by omega)] at c101
            rw [zI_add]
            first
            | (have e9 : metB SA SB A B (j + 1) = true := by rw [le, decide_eq_true ⟨c82, c101⟩, Bool.or_true]
               rw [e9] at i9; exact i9)
            | (have e9 : metB SA SB A B (j + 1) = false := by rw [le, c59, decide_eq_false (fun hh => c101 hh.2)]; rfl
               rw [e9] at i9; exact i9)
theorem m_forms (K : okS σ) (I : IM h σ) {s : Int} (s1 : -2147483648 ≤ s) (s2 : s < 2147483648) : sw_ct wM X l (d + 2) mX12_forms [.ref 0, .int (zI s)] h (sw_qI wM X fun r h2 => IM h2 σ ∧ r = zI (opForms σ s)) := by
  have hp := copP_of K.1.1
  have hn := K.1.1.1
  refine sw_ct_of (by decide +kernel) (Nat.le_of_ble_eq_true rfl) rfl ?_
  generalize hQ : (sw_qI wM X fun r h2 => IM h2 σ ∧ r = zI (opForms σ s)) = Qc
  have loop : ∀ a : Nat, s = (a : Nat) → a < 4 → mtOK σ a = true → ∀ (c k : Nat) (g : sw_H) (SA SB : Nat → Int), k + c = 6 → IM g σ → rwM g 9 σ.1.1.1 (σ.1.2.1.2 a) → g.1 0 14 = zI (σ.1.2.1.1 a) → rwM g 10 σ.1.1.1 (frU σ.1.1.1 σ.1.1.2.1 (shB0 σ a - shA0 σ a) (shB0 σ a)) → g.1 0 15 = zI (frS (shB0 σ a - shA0 σ a)) →
      (∀ j, j < unlikeN (shA0 σ a) (shB0 σ a) (shB0 σ a - shA0 σ a) k → g.2 12 j = zL (SA j) ∧ g.2 13 j = zL (SB j) ∧ (SA j).natAbs < 4611686018427387904 ∧ (SB j).natAbs < 4611686018427387904 ∧ ∃ t, t < k ∧ SA j = fmA σ a t ∧ SB j = fmB σ a t) → (∀ t, t < k → ∃ j, j < unlikeN (shA0 σ a) (shB0 σ a) (shB0 σ a - shA0 σ a) k ∧ SA j = fmA σ a t ∧ SB j = fmB σ a t) →
      sw_wp wM X l (d + 2) mX12_forms Qc 28 [(0, .ref 0), (1, .int (zI s)), (2, .int (zI (unlikeN (shA0 σ a) (shB0 σ a) (shB0 σ a - shA0 σ a) k))), (3, .int (zI k))] [] g := by
    intro a sa ha ok c
    have he : e6Z σ.1.1.1 (σ.1.2.1.2 a) := fun i hi => e6 K ha hi
    have b9 := shAB_b K ha
    have eN : ∀ k, unlikeN (shA0 σ a) (shB0 σ a) (shB0 σ a - shA0 σ a) (k + 1) = unlikeN (shA0 σ a) (shB0 σ a) (shB0 σ a - shA0 σ a) k + if likeE (shA0 σ a) (shB0 σ a) (shB0 σ a - shA0 σ a) k k 0 then 0 else 1 := fun k => rfl
    induction c with
    | zero =>
      intro k g SA SB hk Ig R S M1 M2 H1 H2
      have : k = 6 := by omega
      subst this
      subst hQ
      refine sw_iload_n 29 dX12_forms_28 rfl rfl rfl ?_
      refine sw_bipush (v := zI 6) 31 dX12_forms_29 rfl (by decide) ?_
      refine sw_icmp_ge 163 34 dX12_forms_31 (by decide) rfl (fun c31 => ?_) (fun c31 => ?_)
      · refine sw_iload_n 164 dX12_forms_163 rfl rfl rfl ?_
        exact sw_iret dX12_forms_164 rfl (by
  unfold opForms; rw [sa, if_pos (by omega)]; simp only [Int.toNat_natCast]; rw [if_pos ok]; exact ⟨Ig, rfl⟩)
      · exact absurd (Int32.le_refl _) c31
    | succ c ih =>
      intro k g SA SB hk Ig R S M1 M2 H1 H2
      have F := form_tri hp (K.1.2.1 a ha).1 he ok (show k < 6 by omega)
      have fb := form_b (a := shA0 σ a) (b := shB0 σ a) (c := shB0 σ a - shA0 σ a) (by omega) (by omega) (by omega) k
      have ul := unlikeN_le (shA0 σ a) (shB0 σ a) (shB0 σ a - shA0 σ a) k
      generalize hu : unlikeN (shA0 σ a) (shB0 σ a) (shB0 σ a - shA0 σ a) k = u at H1 H2 ul
      have yb : e6Z σ.1.1.1 (frU σ.1.1.1 σ.1.1.2.1 (shB0 σ a - shA0 σ a) (shB0 σ a)) := fun i hi => by have := frU_b σ.1.1.1 σ.1.1.2.1 (shB0 σ a - shA0 σ a) (shB0 σ a) i; exact ⟨this.1, this.2.1⟩
      have hpb : ∀ i, i < σ.1.1.1 → 2 ≤ σ.1.1.2.1 i ∧ σ.1.1.2.1 i ≤ 31 := fun i hi => kB_2 K hi
      have x100 : ∀ i, i < σ.1.1.1 → -100 ≤ shpE k (σ.1.2.1.2 a i) (frU σ.1.1.1 σ.1.1.2.1 (shB0 σ a - shA0 σ a) (shB0 σ a) i) ∧ shpE k (σ.1.2.1.2 a i) (frU σ.1.1.1 σ.1.1.2.1 (shB0 σ a - shA0 σ a) (shB0 σ a) i) ≤ 100 := fun i hi => by have h9 := F.2.2.2.1 i hi; exact ⟨Int.le_trans (by decide) h9.1, Int.le_trans h9.2 (by decide)⟩
      have s9 : shpS k (σ.1.2.1.1 a) (frS (shB0 σ a - shA0 σ a)) = 1 ∨ shpS k (σ.1.2.1.1 a) (frS (shB0 σ a - shA0 σ a)) = -1 := shpS_1 (K.1.2.1 a ha).1 (frS_1 _)
      have fA : aU σ.1.1.1 σ.1.1.2.1 (fun i => shpE k (σ.1.2.1.2 a i) (frU σ.1.1.1 σ.1.1.2.1 (shB0 σ a - shA0 σ a) (shB0 σ a) i)) (shpS k (σ.1.2.1.1 a) (frS (shB0 σ a - shA0 σ a))) = fmA σ a k := F.2.2.2.2.1
      have fB : bU σ.1.1.1 σ.1.1.2.1 (fun i => shpE k (σ.1.2.1.2 a i) (frU σ.1.1.1 σ.1.1.2.1 (shB0 σ a - shA0 σ a) (shB0 σ a) i)) = fmB σ a k := F.2.2.2.2.2
      have fb2 : (fmA σ a k).natAbs < 4611686018427387904 ∧ 0 ≤ fmB σ a k ∧ fmB σ a k < 4611686018427387904 := fb
      have lk : likeE (shA0 σ a) (shB0 σ a) (shB0 σ a - shA0 σ a) k k 0 = metB SA SB (fmA σ a k) (fmB σ a k) u := by
        rw [Bool.eq_iff_iff, likeE_iff, metB_iff]
        refine ⟨fun ⟨t, h1, h2, h3, h4⟩ => ?_, fun ⟨j, h1, h2, h3⟩ => ?_⟩
        · obtain ⟨j, j1, j2, j3⟩ := H2 t (by omega)
          exact ⟨j, j1, j2.trans h3, j3.trans h4⟩
        · obtain ⟨-, -, -, -, t, q1, q2, q3⟩ := H1 j h1
          exact ⟨t, by omega, by omega, q2.symm.trans h2, q3.symm.trans h3⟩
      have tail : ∀ g2 : sw_H, IM g2 σ → frM [11] [16] g g2 → rwM g2 11 σ.1.1.1 (fun i => shpE k (σ.1.2.1.2 a i) (frU σ.1.1.1 σ.1.1.2.1 (shB0 σ a - shA0 σ a) (shB0 σ a) i)) → g2.1 0 16 = zI (shpS k (σ.1.2.1.1 a) (frS (shB0 σ a - shA0 σ a))) → sw_wp wM X l (d + 2) mX12_forms Qc 117 [(0, .ref 0), (1, .int (zI s)), (2, .int (zI u)), (3, .int (zI k)), (4, .int (bI (metB SA SB (fmA σ a k) (fmB σ a k) u))), (5, .int (zI u))] [] g2 := by
        intro g2 I4 C N1 N2
        have hin := zI_inN (a := u) (n := 6) (by omega) (by decide)
        have Rg := rwM_fr R C (by decide) (by decide)
        have Mg := rwM_fr M1 C (by decide) (by decide)
        have Sg : g2.1 0 14 = zI (σ.1.2.1.1 a) := by rw [C.2.2 14 (by decide)]; exact S
        have Tg : g2.1 0 15 = zI (frS (shB0 σ a - shA0 σ a)) := by rw [C.2.2 15 (by decide)]; exact M2
        have C12 := C.2.1 12 (by decide)
        have C13 := C.2.1 13 (by decide)
        refine sw_iload 119 dX12_forms_117 rfl rfl ?_
        refine sw_if_ne 157 122 dX12_forms_119 (by decide) rfl (fun c119 => ?_) (fun c119 => ?_)
        · refine sw_iinc (v := zI 1) (lc' := [(0, _), (1, _), (2, _), (3, _), (4, _), (5, _)]) 160 dX12_forms_157 rfl (by decide) rfl rfl rfl ?_
          refine sw_goto 28 dX12_forms_160 (by decide) ?_
          rw [bIz_eq, Bool.not_eq_false] at c119
          rw [zI_add]
          have e9 := eN k
          rw [lk, c119, hu] at e9
          have e9 : unlikeN (shA0 σ a) (shB0 σ a) (shB0 σ a - shA0 σ a) (k + 1) = u := e9
          have i9 := ih (k + 1) _ SA SB (by omega) I4 Rg Sg Mg Tg (fun j hj => ?_) (fun t ht => ?_)
          · rw [e9] at i9
            exact sw_wp_sub (by simp) i9
          · rw [e9] at hj
            rw [C12, C13]
            obtain ⟨q1, q2, q3, q4, t, q5, q6⟩ := H1 j hj
            exact ⟨q1, q2, q3, q4, t, by omega, q6⟩
          · rw [e9]
            by_cases et : t = k
            · obtain ⟨j, j1, j2, j3⟩ := (metB_iff u).mp c119
              exact ⟨j, j1, by rw [et]; exact j2, by rw [et]; exact j3⟩
            · exact H2 t (by omega)
        · refine sw_aload_n 123 dX12_forms_122 rfl rfl rfl ?_
          refine sw_getR (b := 12) 126 dX12_forms_123 rfl gf_RX12_46 (fun _ _ _ _ => rfl) ⟨by decide, rfl⟩ rfl ?_
          refine sw_iload_n 127 dX12_forms_126 rfl rfl rfl ?_
          refine sw_aload_n 128 dX12_forms_127 rfl rfl rfl ?_
          refine sw_aload_n 129 dX12_forms_128 rfl rfl rfl ?_
          refine sw_getR (b := 11) 132 dX12_forms_129 rfl gf_RX12_43 (fun _ _ _ _ => rfl) ⟨by decide, rfl⟩ rfl ?_
          refine sw_aload_n 133 dX12_forms_132 rfl rfl rfl ?_
          refine sw_getI 136 dX12_forms_133 rfl gf_RX12_129 rfl ⟨by decide, rfl⟩ ?_
          rw [N2]
          refine sw_invVL 139 dX12_forms_136 rfl lk_RX12_116 (m_aboveOf I4.1 hn hpb r11 N1 x100 s9) ⟨by decide, rfl⟩ rfl rfl (Nat.le_of_ble_eq_true rfl) (fun r136 h136 hq136 => ?_)
          obtain ⟨rfl, rfl⟩ := hq136
          rw [show shpS k (σ.1.2.1.1 a) (frS (shB0 σ a - shA0 σ a)) * sideZ σ.1.1.2.1 (fun i => shpE k (σ.1.2.1.2 a i) (frU σ.1.1.1 σ.1.1.2.1 (shB0 σ a - shA0 σ a) (shB0 σ a) i)) 1 σ.1.1.1 = fmA σ a k from fA]
          refine sw_last 140 dX12_forms_139 rfl ⟨by decide, rfl⟩ (by assumption) ?_
          rw [zI_clampN (by omega)]
          refine sw_aload_n 141 dX12_forms_140 rfl rfl rfl ?_
          refine sw_getR (b := 13) 144 dX12_forms_141 rfl gf_RX12_49 (fun _ _ _ _ => rfl) ⟨by decide, rfl⟩ rfl ?_
          refine sw_iload_n 145 dX12_forms_144 rfl rfl rfl ?_
          refine sw_aload_n 146 dX12_forms_145 rfl rfl rfl ?_
          refine sw_aload_n 147 dX12_forms_146 rfl rfl rfl ?_
          refine sw_getR (b := 11) 150 dX12_forms_147 rfl gf_RX12_43 (fun _ _ _ _ => rfl) ⟨by decide, rfl⟩ rfl ?_
          refine sw_invVL 153 dX12_forms_150 rfl lk_RX12_112 (m_belowOf (h := sw_wL _ 12 u (zL (fmA σ a k))) I4.1 hn hpb r11 N1 x100) ⟨by decide, rfl⟩ rfl rfl (Nat.le_of_ble_eq_true rfl) (fun r150 h150 hq150 => ?_)
          obtain ⟨rfl, rfl⟩ := hq150
          rw [show sideZ σ.1.1.2.1 (fun i => shpE k (σ.1.2.1.2 a i) (frU σ.1.1.1 σ.1.1.2.1 (shB0 σ a - shA0 σ a) (shB0 σ a) i)) (-1) σ.1.1.1 = fmB σ a k from fB]
          refine sw_last 154 dX12_forms_153 rfl ⟨by decide, rfl⟩ (by assumption) ?_
          refine sw_iinc (v := zI 1) (lc' := [(0, _), (1, _), (2, _), (3, _), (4, _), (5, _)]) 157 dX12_forms_154 rfl (by decide) rfl rfl rfl ?_
          refine sw_iinc (v := zI 1) (lc' := [(0, _), (1, _), (2, _), (3, _), (4, _), (5, _)]) 160 dX12_forms_157 rfl (by decide) rfl rfl rfl ?_
          refine sw_goto 28 dX12_forms_160 (by decide) ?_
          rw [bIz_eq] at c119
          rw [zI_clampN (by omega), zI_add, zI_add]
          have e9 := eN k
          rw [lk, c119, hu] at e9
          have W : frM [12, 13] [] h136 (sw_wL (sw_wL h136 12 u (zL (fmA σ a k))) 13 u (zL (fmB σ a k))) := frM_tr (frM_wL (by decide)) (frM_wL (by decide))
          have v12 : (sw_wL (sw_wL h136 12 u (zL (fmA σ a k))) 13 u (zL (fmB σ a k))).2 12 = va_up (h136.2 12) u (zL (fmA σ a k)) := by rw [sw_wL_ne (by decide), sw_wL_at]
          have v13 : (sw_wL (sw_wL h136 12 u (zL (fmA σ a k))) 13 u (zL (fmB σ a k))).2 13 = va_up (h136.2 13) u (zL (fmB σ a k)) := by rw [sw_wL_at, sw_wL_ne (by decide)]
          have i9 := ih (k + 1) (sw_wL (sw_wL h136 12 u (zL (fmA σ a k))) 13 u (zL (fmB σ a k))) (va_up SA u (fmA σ a k)) (va_up SB u (fmB σ a k)) (by omega) (IM_fr I4 W (by decide) (by decide)) Rg Sg Mg Tg (fun j hj => ?_) (fun t ht => ?_)
          · rw [e9] at i9
            exact sw_wp_sub (by simp) i9
          · rw [e9] at hj
            have hj : j < u + 1 := hj
            rw [v12, v13]
            unfold va_up
            by_cases ej : j = u
            · rw [if_pos ej, if_pos ej, if_pos ej, if_pos ej]
              exact ⟨rfl, rfl, fb2.1, by omega, k, by omega, rfl, rfl⟩
            · rw [if_neg ej, if_neg ej, if_neg ej, if_neg ej, C12, C13]
              obtain ⟨q1, q2, q3, q4, t, q5, q6⟩ := H1 j (by omega)
              exact ⟨q1, q2, q3, q4, t, by omega, q6⟩
          · rw [e9]
            unfold va_up
            by_cases et : t = k
            · refine ⟨u, by simp, ?_, ?_⟩
              · rw [if_pos rfl, et]
              · rw [if_pos rfl, et]
            · obtain ⟨j, j1, j2, j3⟩ := H2 t (by omega)
              refine ⟨j, by have : j < u + 1 := by omega
                            exact this, ?_, ?_⟩
              · rw [if_neg (by omega)]; exact j2
              · rw [if_neg (by omega)]; exact j3
      refine sw_iload_n 29 dX12_forms_28 rfl rfl rfl ?_
      refine sw_bipush (v := zI 6) 31 dX12_forms_29 rfl (by decide) ?_
      refine sw_icmp_ge 163 34 dX12_forms_31 (by decide) rfl (fun c31 => ?_) (fun c31 => ?_)
      · exact absurd c31 (by rw [zI_le (by omega) (by omega) (by omega) (by omega)]; omega)
      · refine sw_aload_n 35 dX12_forms_34 rfl rfl rfl ?_
        refine sw_iload_n 36 dX12_forms_35 rfl rfl rfl ?_
        refine sw_invVI 39 dX12_forms_36 rfl lk_RX12_164 (m_hasForm Ig.1 hn R M1 S M2 he yb (show k < 6 by omega) F.2.2.2.1) ⟨by decide, rfl⟩ rfl rfl (Nat.le_of_ble_eq_true rfl) (fun r36 h36 hq36 => ?_)
        obtain ⟨C, rfl, N1, N2⟩ := hq36
        have I4 := IM_fr Ig C (by decide) (by decide)
        refine sw_if_ne 45 42 dX12_forms_39 (by decide) rfl (fun c39 => ?_) (fun c39 => ?_)
        · refine sw_iconst (v := zI 0) 46 dX12_forms_45 rfl (by decide) ?_
          refine sw_istore (lc' := [(0, _), (1, _), (2, _), (3, _), (4, _)]) 48 dX12_forms_46 rfl (by decide) rfl ?_
          refine sw_iconst (v := zI 0) 49 dX12_forms_48 rfl (by decide) ?_
          refine sw_istore (lc' := [(0, _), (1, _), (2, _), (3, _), (4, _), (5, _)]) 51 dX12_forms_49 rfl (by decide) rfl ?_
          refine forms_in (SA := SA) (SB := SB) I4.1 K.1.1 N1 F.2.2.2.1 N2 s9 (by omega) (fun j hj => ?_) ?_ u 0 (by omega)
          · have := H1 j hj
            rw [C.2.1 12 (by decide), C.2.1 13 (by decide)]
            exact ⟨this.1, this.2.1, this.2.2.1, this.2.2.2.1⟩
          · have g9 := tail _ I4 C N1 N2
            rw [← fA, ← fB] at g9
            exact g9
        · exact absurd c39 (by decide)
  refine sw_iload_n 1 dX12_forms_0 rfl rfl rfl ?_
  refine sw_invSI 4 dX12_forms_1 rfl lk_RX12_132 (m_isShelf s1 s2) rfl rfl (Nat.le_of_ble_eq_true rfl) (fun r1 h1 hq1 => ?_)
  obtain ⟨rfl, rfl⟩ := hq1
  refine sw_if_ne 9 7 dX12_forms_4 (by decide) rfl (fun c4 => ?_) (fun c4 => ?_)
  · rw [ifz_eq, Decidable.not_not] at c4
    obtain ⟨a, sa⟩ := Int.eq_ofNat_of_zero_le c4.1
    have ha : a < 4 := by omega
    have he : e6Z σ.1.1.1 (σ.1.2.1.2 a) := fun i hi => e6 K ha hi
    rw [sa]
    refine sw_aload_n 10 dX12_forms_9 rfl rfl rfl ?_
    refine sw_iload_n 11 dX12_forms_10 rfl rfl rfl ?_
    refine sw_invVV 14 dX12_forms_11 rfl lk_RX12_137 (m_looks K I ha) ⟨by decide, rfl⟩ rfl rfl (Nat.le_of_ble_eq_true rfl) (fun h11 hq11 => ?_)
    obtain ⟨A, R, S⟩ := hq11
    have I2 := IM_fr I A (by decide) (by decide)
    refine sw_aload_n 15 dX12_forms_14 rfl rfl rfl ?_
    refine sw_invVI 18 dX12_forms_15 rfl lk_RX12_160 (m_hasMate I2.1 K.1.1 R he S (K.1.2.1 a ha).1) ⟨by decide, rfl⟩ rfl rfl (Nat.le_of_ble_eq_true rfl) (fun r15 h15 hq15 => ?_)
    obtain ⟨B, rfl, M⟩ := hq15
    have I3 := IM_fr I2 B (by decide) (by decide)
    refine sw_if_ne 24 21 dX12_forms_18 (by decide) rfl (fun c18 => ?_) (fun c18 => ?_)
    · refine sw_iconst (v := zI 0) 25 dX12_forms_24 rfl (by decide) ?_
      refine sw_istore_n (lc' := [(0, _), (1, _), (2, _)]) 26 dX12_forms_25 rfl rfl (by decide) rfl ?_
      refine sw_iconst (v := zI 0) 27 dX12_forms_26 rfl (by decide) ?_
      refine sw_istore_n (lc' := [(0, _), (1, _), (2, _), (3, _)]) 28 dX12_forms_27 rfl rfl (by decide) rfl ?_
      rw [bIz_eq, Bool.not_eq_false] at c18
      obtain ⟨M1, M2⟩ := M c18
      have g := loop a sa ha c18 6 0 _ (fun _ => 0) (fun _ => 0) (by omega) I3 (rwM_fr R B (by decide) (by decide)) (by rw [B.2.2 14 (by decide)]; exact S) M1 M2 (fun j hj => absurd hj (Nat.not_lt_zero j)) (fun t ht => absurd ht (Nat.not_lt_zero t))
      rw [sa] at g
      exact g
    · rw [bIz_eq] at c18
      subst hQ
      refine sw_bipush (v := zI (-5)) 23 dX12_forms_21 rfl (by decide) ?_
      exact sw_iret dX12_forms_23 rfl (by
  unfold opForms; rw [if_pos c4, sa, if_neg (by rw [show mtOK σ ((a : Nat) : Int).toNat = false from c18]; decide)]; exact ⟨I3, rfl⟩)
  · rw [ifz_eq] at c4
    subst hQ
    refine sw_iconst (v := zI (-1)) 8 dX12_forms_7 rfl (by decide) ?_
    exact sw_iret dX12_forms_8 rfl (by unfold opForms; rw [if_neg c4]; exact ⟨I, rfl⟩)
end sw_m7
