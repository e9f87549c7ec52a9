/-! THE REFERENCE, 17: groups -/
def mFT (T : TbZ) (k : Nat) : Nat → Int
  | 0 => k
  | f + 1 => min (mFT T k f) (whT T (formA (T.2.1 k) (T.2.2.1 k) (T.2.2.1 k - T.2.1 k) f) (formB (T.2.1 k) (T.2.2.1 k) (T.2.2.1 k - T.2.1 k) f))
theorem mFT_le {T : TbZ} {k : Nat} {B : Int} : ∀ m, (∃ f, f < m ∧ whT T (formA (T.2.1 k) (T.2.2.1 k) (T.2.2.1 k - T.2.1 k) f) (formB (T.2.1 k) (T.2.2.1 k) (T.2.2.1 k - T.2.1 k) f) ≤ B) → mFT T k m ≤ B
  | 0, ⟨f, hf, _⟩ => absurd hf (Nat.not_lt_zero f)
  | m + 1, ⟨f, hf, h⟩ => by
    unfold mFT
    by_cases e : f = m
    · subst e; omega
    · have := mFT_le m ⟨f, by omega, h⟩; omega
theorem mFT_ge {T : TbZ} {k : Nat} {B : Int} (h0 : B ≤ k) : ∀ m, (∀ f, f < m → B ≤ whT T (formA (T.2.1 k) (T.2.2.1 k) (T.2.2.1 k - T.2.1 k) f) (formB (T.2.1 k) (T.2.2.1 k) (T.2.2.1 k - T.2.1 k) f)) → B ≤ mFT T k m
  | 0, _ => h0
  | m + 1, h => by
    unfold mFT
    have := mFT_ge h0 m (fun f hf => h f (by omega))
    have := h m (by omega)
    omega
theorem fndZ_snoc {p : Nat → Int} {v : Int} {k : Nat} : fndZ p v (k + 1) 0 = if fndZ p v k 0 = -1 then (if p k = v then (k : Int) else -1) else fndZ p v k 0 := by
  by_cases e : fndZ p v k 0 = -1
  · rw [if_pos e]
    have h := (fndZ_none k 0).mp e
    by_cases e2 : p k = v
    · rw [if_pos e2]
      have q : ¬ fndZ p v (k + 1) 0 = -1 := fun q => (fndZ_none (k + 1) 0).mp q k (by omega) (by omega) e2
      obtain ⟨j, j1, j2, j3, j4, j5⟩ := fndZ_at (k + 1) 0 q
      rw [j1]
      by_cases ej : j = k
      · rw [ej]
      · exact absurd j4 (h j (by omega) (by omega))
    · rw [if_neg e2, fndZ_none]
      intro j h1 h2
      by_cases ej : j = k
      · rw [ej]; exact e2
      · exact h j h1 (by omega)
  · rw [if_neg e]
    obtain ⟨j, j1, j2, j3, j4, j5⟩ := fndZ_at k 0 e
    have q : ¬ fndZ p v (k + 1) 0 = -1 := fun q => (fndZ_none (k + 1) 0).mp q j (by omega) (by omega) j4
    obtain ⟨i, i1, i2, i3, i4, i5⟩ := fndZ_at (k + 1) 0 q
    rw [j1, i1]
    rcases Nat.lt_trichotomy i j with c | c | c
    · exact absurd i4 (j5 i (by omega) c)
    · rw [c]
    · exact absurd j4 (i5 j (by omega) c)
section sw_m17
variable {X : sw_X} {l : Launch} {d : Nat} {h : sw_H} {σ : SgZ} {n : Nat} {p bx : Nat → Int}
/-- an answer's own unit, its forms among the answers -/
theorem ans_k (kB : okB n p bx) {k : Nat} (hk : k < (ansT n p bx).1) : ∃ a b : Int, (ansT n p bx).2.1 k = a ∧ (ansT n p bx).2.2.1 k = b ∧ okAB a b ∧ e6Z n (frU n p a b) ∧ aU n p (frU n p a b) (frS a) = a ∧ bU n p (frU n p a b) = b ∧ frOK n p a b = true ∧ frOK n p (b - a) b = true ∧ ∀ f, f < 6 → inT (ansT n p bx) (formA a b (b - a) f) (formB a b (b - a) f) := by
  have hp := copP_of kB
  have hb6 : ∀ i, i < n → bx i ≤ 6 := fun i hi => by have := (kB.2.2.2.2 i hi).2; omega
  have A := (tab_in kB).mp ⟨k, hk, rfl, rfl⟩
  obtain ⟨a1, a2, a3, a4⟩ := ATri_unit hb6 hp A
  generalize (ansT n p bx).2.1 k = a at *
  generalize (ansT n p bx).2.2.1 k = b at *
  have e6 : e6Z n (frU n p a b) := fun i _ => by have := frU_b n p a b i; omega
  refine ⟨a, b, rfl, rfl, ATri_ok hp A, e6, a2, a3, a1, ?_, fun f hf => (tab_in kB).mpr (ATri_form hp A hf)⟩
  have q := (ansB_iff hb6 hp (frS_1 a) e6).mpr (by rw [a2, a3]; exact A)
  unfold ansB at q
  rw [a2, a3] at q
  simp only [Bool.and_eq_true] at q
  exact q.2.1
theorem wh_can (kB : okB n p bx) {k f : Nat} (hk : k < (ansT n p bx).1) (hf : f < 6) : ∃ j : Nat, whT (ansT n p bx) (formA ((ansT n p bx).2.1 k) ((ansT n p bx).2.2.1 k) ((ansT n p bx).2.2.1 k - (ansT n p bx).2.1 k) f) (formB ((ansT n p bx).2.1 k) ((ansT n p bx).2.2.1 k) ((ansT n p bx).2.2.1 k - (ansT n p bx).2.1 k) f) = j ∧ j < (ansT n p bx).1 ∧ canT (ansT n p bx) j = canT (ansT n p bx) k := by
  obtain ⟨a, b, ea, eb, o, -, -, -, -, -, F⟩ := ans_k kB hk
  rw [ea, eb]
  obtain ⟨j, j1, j2, j3⟩ := F f hf
  have fs := form_same o hf
  refine ⟨j, wh_at (tab_srt kB) j1 j2 j3, j1, ?_⟩
  unfold canT
  rw [ea, eb, j2, j3, fs.2.1, fs.2.2]
theorem mFT_6 (kB : okB n p bx) {k : Nat} (hk : k < (ansT n p bx).1) : mFT (ansT n p bx) k 6 = (fsT (ansT n p bx) k : Nat) := by
  have fs := fsT_all (ansT n p bx) k
  refine Int.le_antisymm (mFT_le 6 ?_) (mFT_ge (by omega) 6 (fun f hf => ?_))
  · obtain ⟨a, b, ea, eb, o, -⟩ := ans_k kB hk
    obtain ⟨a', b', ea', eb', o', -⟩ := ans_k kB (show fsT (ansT n p bx) k < (ansT n p bx).1 by omega)
    have c := fs.2.1
    unfold canT at c
    rw [ea, eb, ea', eb', Prod.mk.injEq] at c
    obtain ⟨f, f1, f2, f3⟩ := form_all o o' c.1 c.2
    refine ⟨f, f1, ?_⟩
    rw [ea, eb, f2, f3, wh_at (tab_srt kB) (show fsT (ansT n p bx) k < (ansT n p bx).1 by omega) ea' eb']
    exact Int.le_refl _
  · obtain ⟨j, j1, j2, j3⟩ := wh_can kB hk hf
    rw [j1]
    have : fsT (ansT n p bx) k ≤ j := Nat.le_of_not_lt fun q => fs.2.2 j q j3
    omega
def gpM (h : sw_H) (T : TbZ) (m : Nat) : Prop := ∀ k, k < m → h.1 18 k = zI (fsT T k)
theorem m_layGroups (V : imB h n p bx) (kB : okB n p bx) : sw_ct wM X l (d + 4) mX12_layGroups [.ref 0] h (sw_qV wM X fun h2 => frM [9, 10, 11, 14, 15, 16, 17, 18] [14, 15, 16, 19] h h2 ∧ tbM h2 n p (ansT n p bx) ∧ gpM h2 (ansT n p bx) (ansT n p bx).1) := by
  have hn := kB.1
  have hp := copP_of kB
  have hpb : ∀ i, i < n → 2 ≤ p i ∧ p i ≤ 31 := fun i hi => (kB.2.1 i hi).2
  have hN := tab_264 kB
  refine sw_ct_of (by decide +kernel) (Nat.le_of_ble_eq_true rfl) rfl ?_
  generalize hQ : (sw_qV wM X fun h2 => frM [9, 10, 11, 14, 15, 16, 17, 18] [14, 15, 16, 19] h h2 ∧ tbM h2 n p (ansT n p bx) ∧ gpM h2 (ansT n p bx) (ansT n p bx).1) = Qc
  have loop : ∀ (c k : Nat) (g : sw_H), k + c = (ansT n p bx).1 → frM [9, 10, 11, 14, 15, 16, 17, 18] [14, 15, 16, 19] h g → tbM g n p (ansT n p bx) → gpM g (ansT n p bx) k → sw_wp wM X l (d + 4) mX12_layGroups Qc 6 [(0, .ref 0), (1, .int (zI k))] [] g := by
    intro c
    induction c with
    | zero =>
      intro k g hk A W G
      have : k = (ansT n p bx).1 := by omega
      subst this
      subst hQ
      refine sw_iload_n 7 dX12_layGroups_6 rfl rfl rfl ?_
      refine sw_aload_n 8 dX12_layGroups_7 rfl rfl rfl ?_
      refine sw_getI 11 dX12_layGroups_8 rfl gf_RX12_167 rfl ⟨by decide, rfl⟩ ?_
      rw [W.1]
      refine sw_icmp_ge 116 14 dX12_layGroups_11 (by decide) rfl (fun c11 => ?_) (fun c11 => ?_)
      · exact sw_vret dX12_layGroups_116 rfl (⟨A, W, G⟩)
      · exact absurd (Int32.le_refl _) c11
    | succ c ih =>
      intro k g hk A W G
      have hk2 : k < (ansT n p bx).1 := by omega
      have hin := zI_inN (a := k) (n := 800) (by omega) (by decide)
      have Vg : imB g n p bx := imB_fr V A (by decide) (by decide) (by decide)
      obtain ⟨a, b, ea, eb, o, e6, ua, ub, -, ok, F⟩ := ans_k kB hk2
      have ok' : frOK n p (bU n p (frU n p a b) - aU n p (frU n p a b) (frS a)) (bU n p (frU n p a b)) = true := by rw [ua, ub]; exact ok
      have yb : e6Z n (frU n p (b - a) b) := fun i _ => by have := frU_b n p (b - a) b i; omega
      have ob := W.2.1.2 k hk2
      rw [ea, eb] at ob
      have inner : ∀ (c2 f : Nat) (g2 : sw_H), f + c2 = 6 → frM [9, 10, 11, 18] [14, 15, 16] g g2 → rwM g2 9 n (frU n p a b) → g2.1 0 14 = zI (frS a) → rwM g2 10 n (frU n p (b - a) b) → g2.1 0 15 = zI (frS (b - a)) → gpM g2 (ansT n p bx) k → g2.1 18 k = zI (mFT (ansT n p bx) k f) → sw_wp wM X l (d + 4) mX12_layGroups Qc 33 [(0, .ref 0), (1, .int (zI k)), (2, .int (bI true)), (3, .int (zI f))] [] g2 := by
        intro c2
        induction c2 with
        | zero =>
          intro f g2 hf B R S M1 M2 G2 Gk
          have : f = 6 := by omega
          subst this
          refine sw_iload_n 34 dX12_layGroups_33 rfl rfl rfl ?_
          refine sw_bipush (v := zI 6) 36 dX12_layGroups_34 rfl (by decide) ?_
          refine sw_icmp_ge 110 39 dX12_layGroups_36 (by decide) rfl (fun c36 => ?_) (fun c36 => ?_)
          · refine sw_iinc (v := zI 1) (lc' := [(0, _), (1, _), (2, _), (3, _)]) 113 dX12_layGroups_110 rfl (by decide) rfl rfl rfl ?_
            refine sw_goto 6 dX12_layGroups_113 (by decide) ?_
            rw [zI_add]
            refine sw_wp_sub (by simp) (ih (k + 1) _ (by omega) (frM_tr A (frM_sub B (by decide) (by decide))) ⟨by rw [B.2.2 19 (by decide)]; exact W.1, W.2.1, fun i hi => rowT_fr (W.2.2 i hi) B (by decide)⟩ (fun i hi => ?_))
            by_cases e : i = k
            · rw [e, Gk, mFT_6 kB hk2]
            · exact G2 i (by omega)
          · exact absurd (Int32.le_refl _) c36
        | succ c2 ih2 =>
          intro f g2 hf B R S M1 M2 G2 Gk
          have hf6 : f < 6 := by omega
          have V2 : imB g2 n p bx := imB_fr Vg B (by decide) (by decide) (by decide)
          have FT := form_tri hp (frS_1 a) e6 ok' hf6
          rw [ua, ub] at FT
          have x100 : ∀ i, i < n → -100 ≤ shpE f (frU n p a b i) (frU n p (b - a) b i) ∧ shpE f (frU n p a b i) (frU n p (b - a) b i) ≤ 100 := fun i hi => by have h9 := FT.2.2.2.1 i hi; exact ⟨Int.le_trans (by decide) h9.1, Int.le_trans h9.2 (by decide)⟩
          have s9 : shpS f (frS a) (frS (b - a)) = 1 ∨ shpS f (frS a) (frS (b - a)) = -1 := shpS_1 (frS_1 a) (frS_1 _)
          have fA : shpS f (frS a) (frS (b - a)) * sideZ p (fun i => shpE f (frU n p a b i) (frU n p (b - a) b i)) 1 n = formA a b (b - a) f := FT.2.2.2.2.1
          have fB : sideZ p (fun i => shpE f (frU n p a b i) (frU n p (b - a) b i)) (-1) n = formB a b (b - a) f := FT.2.2.2.2.2
          have b9 := ab_b hp.1 kB.2.2.2.1 (frS_1 a) e6
          rw [ua, ub] at b9
          have fb := form_b (a := a) (b := b) (c := b - a) (by omega) (by omega) (by omega) f
          have wc := wh_can kB hk2 hf6
          rw [ea, eb] at wc
          obtain ⟨j, j1, j2, j3⟩ := wc
          have le : mFT (ansT n p bx) k (f + 1) = min (mFT (ansT n p bx) k f) (j : Int) := by
            show min _ _ = _
            rw [ea, eb, j1]
          have mb : 0 ≤ mFT (ansT n p bx) k f ∧ mFT (ansT n p bx) k f ≤ k := by
            refine ⟨mFT_ge (by omega) f (fun t ht => ?_), ?_⟩
            · obtain ⟨i, i1, -⟩ := wh_can kB hk2 (show t < 6 by omega)
              rw [i1]; omega
            · clear Gk le ih2 FT fA fB hf hf6 j1 fb s9 x100
              induction f with
              | zero => exact Int.le_refl _
              | succ f ihf => show min _ _ ≤ _; omega
          refine sw_iload_n 34 dX12_layGroups_33 rfl rfl rfl ?_
          refine sw_bipush (v := zI 6) 36 dX12_layGroups_34 rfl (by decide) ?_
          refine sw_icmp_ge 110 39 dX12_layGroups_36 (by decide) rfl (fun c36 => ?_) (fun c36 => ?_)
          · exact absurd c36 (by rw [zI_le (by omega) (by omega) (by omega) (by omega)]; omega)
          · refine sw_aload_n 40 dX12_layGroups_39 rfl rfl rfl ?_
            refine sw_iload_n 41 dX12_layGroups_40 rfl rfl rfl ?_
            refine sw_invVI 44 dX12_layGroups_41 rfl lk_RX12_164 (m_hasForm V2 hn R M1 S M2 e6 yb hf6 FT.2.2.2.1) ⟨by decide, rfl⟩ rfl rfl (Nat.le_of_ble_eq_true rfl) (fun r41 h41 hq41 => ?_)
            obtain ⟨C, rfl, N1, N2⟩ := hq41
            have V3 := imB_fr V2 C (by decide) (by decide) (by decide)
            refine sw_if_eq 104 47 dX12_layGroups_44 (by decide) rfl (fun c44 => ?_) (fun c44 => ?_)
            · exact absurd c44 (by decide)
            · refine sw_aload_n 48 dX12_layGroups_47 rfl rfl rfl ?_
              refine sw_aload_n 49 dX12_layGroups_48 rfl rfl rfl ?_
              refine sw_aload_n 50 dX12_layGroups_49 rfl rfl rfl ?_
              refine sw_getR (b := 11) 53 dX12_layGroups_50 rfl gf_RX12_43 (fun _ _ _ _ => rfl) ⟨by decide, rfl⟩ rfl ?_
              refine sw_aload_n 54 dX12_layGroups_53 rfl rfl rfl ?_
              refine sw_getI 57 dX12_layGroups_54 rfl gf_RX12_129 rfl ⟨by decide, rfl⟩ ?_
              rw [N2]
              refine sw_invVL 60 dX12_layGroups_57 rfl lk_RX12_116 (m_aboveOf V3 hn hpb r11 N1 x100 s9) ⟨by decide, rfl⟩ rfl rfl (Nat.le_of_ble_eq_true rfl) (fun r57 h57 hq57 => ?_)
              obtain ⟨rfl, rfl⟩ := hq57
              rw [fA]
              refine sw_aload_n 61 dX12_layGroups_60 rfl rfl rfl ?_
              refine sw_aload_n 62 dX12_layGroups_61 rfl rfl rfl ?_
              refine sw_getR (b := 11) 65 dX12_layGroups_62 rfl gf_RX12_43 (fun _ _ _ _ => rfl) ⟨by decide, rfl⟩ rfl ?_
              refine sw_invVL 68 dX12_layGroups_65 rfl lk_RX12_112 (m_belowOf V3 hn hpb r11 N1 x100) ⟨by decide, rfl⟩ rfl rfl (Nat.le_of_ble_eq_true rfl) (fun r65 h65 hq65 => ?_)
              obtain ⟨rfl, rfl⟩ := hq65
              rw [fB]
              have W3 : tbM h65 n p (ansT n p bx) := tbM_fr (tbM_fr W B (by decide) (by decide)) C (by decide) (by decide)
              have Gk3 : h65.1 18 k = zI (mFT (ansT n p bx) k f) := by rw [C.1 18 (by decide) (by decide)]; exact Gk
              refine sw_invVI 71 dX12_layGroups_68 rfl lk_RX12_188 (m_answerBy W3 (tab_srt kB) (a := formA a b (b - a) f) (b := formB a b (b - a) f) fb.1 (by omega)) ⟨by decide, rfl⟩ rfl rfl (Nat.le_of_ble_eq_true rfl) (fun r68 h68 hq68 => ?_)
              obtain ⟨rfl, rfl⟩ := hq68
              rw [j1, if_neg (by omega)]
              refine sw_istore (lc' := [(0, _), (1, _), (2, _), (3, _), (4, _)]) 73 dX12_layGroups_71 rfl (by decide) rfl ?_
              refine sw_aload_n 74 dX12_layGroups_73 rfl rfl rfl ?_
              refine sw_getR (b := 18) 77 dX12_layGroups_74 rfl gf_RX12_64 (fun _ _ _ _ => rfl) ⟨by decide, rfl⟩ rfl ?_
              refine sw_iload_n 78 dX12_layGroups_77 rfl rfl rfl ?_
              refine sw_iload 80 dX12_layGroups_78 rfl rfl ?_
              refine sw_if_lt 97 83 dX12_layGroups_80 (by decide) rfl (fun c80 => ?_) (fun c80 => ?_)
              · exact absurd c80 (by rw [z0, zI_lt (by omega) (by omega) (by omega) (by omega)]; omega)
              · refine sw_aload_n 84 dX12_layGroups_83 rfl rfl rfl ?_
                refine sw_getR (b := 18) 87 dX12_layGroups_84 rfl gf_RX12_64 (fun _ _ _ _ => rfl) ⟨by decide, rfl⟩ rfl ?_
                refine sw_iload_n 88 dX12_layGroups_87 rfl rfl rfl ?_
                refine sw_iald 89 dX12_layGroups_88 rfl ⟨by decide, rfl⟩ (by assumption) ?_
                rw [zI_clampN (by omega), Gk3]
                refine sw_iload 91 dX12_layGroups_89 rfl rfl ?_
                refine sw_invSI 94 dX12_layGroups_91 rfl lk_RX12_123 (c_minZ (by omega) (by omega) (by omega) (by omega)) rfl rfl (Nat.le_of_ble_eq_true rfl) (fun r91 h91 hq91 => ?_)
                obtain ⟨rfl, rfl⟩ := hq91
                refine sw_goto 103 dX12_layGroups_94 (by decide) ?_
                refine sw_iast 104 dX12_layGroups_103 rfl ⟨by decide, rfl⟩ (by assumption) ?_
                refine sw_iinc (v := zI 1) (lc' := [(0, _), (1, _), (2, _), (3, _), (4, _)]) 107 dX12_layGroups_104 rfl (by decide) rfl rfl rfl ?_
                refine sw_goto 33 dX12_layGroups_107 (by decide) ?_
                rw [zI_clampN (by omega), zI_add, ← le]
                have D : frM [9, 10, 11, 18] [14, 15, 16] g (sw_wI h91 18 k (zI (mFT (ansT n p bx) k (f + 1)))) := frM_tr B (frM_tr (frM_sub C (by decide) (by decide)) (frM_wI (by decide) (by decide)))
                have D2 : frM [11, 18] [16] g2 (sw_wI h91 18 k (zI (mFT (ansT n p bx) k (f + 1)))) := frM_tr (frM_sub C (by decide) (by decide)) (frM_wI (by decide) (by decide))
                refine sw_wp_sub (by simp) (ih2 (f + 1) _ (by omega) D (rwM_fr R D2 (by decide) (by decide)) (by rw [D2.2.2 14 (by decide)]; exact S) (rwM_fr M1 D2 (by decide) (by decide)) (by rw [D2.2.2 15 (by decide)]; exact M2) (fun i hi => ?_) (by rw [sw_wI_at]; simp [va_up]))
                rw [sw_wI_at]
                unfold va_up
                rw [if_neg (by omega), C.1 18 (by decide) (by decide)]
                exact G2 i hi
      refine sw_iload_n 7 dX12_layGroups_6 rfl rfl rfl ?_
      refine sw_aload_n 8 dX12_layGroups_7 rfl rfl rfl ?_
      refine sw_getI 11 dX12_layGroups_8 rfl gf_RX12_167 rfl ⟨by decide, rfl⟩ ?_
      rw [W.1]
      refine sw_icmp_ge 116 14 dX12_layGroups_11 (by decide) rfl (fun c11 => ?_) (fun c11 => ?_)
      · exact absurd c11 (by rw [zI_le (by omega) (by omega) (by omega) (by omega)]; omega)
      · refine sw_aload_n 15 dX12_layGroups_14 rfl rfl rfl ?_
        refine sw_iload_n 16 dX12_layGroups_15 rfl rfl rfl ?_
        refine sw_invVV 19 dX12_layGroups_16 rfl lk_RX12_185 (m_looksAnswer Vg hn W hk2) ⟨by decide, rfl⟩ rfl rfl (Nat.le_of_ble_eq_true rfl) (fun h16 hq16 => ?_)
        obtain ⟨B, R, S⟩ := hq16
        rw [ea, eb] at R
        rw [ea] at S
        refine sw_aload_n 20 dX12_layGroups_19 rfl rfl rfl ?_
        refine sw_invVI 23 dX12_layGroups_20 rfl lk_RX12_160 (m_hasMate (imB_fr Vg B (by decide) (by decide) (by decide)) kB R e6 S (frS_1 a)) ⟨by decide, rfl⟩ rfl rfl (Nat.le_of_ble_eq_true rfl) (fun r20 h20 hq20 => ?_)
        obtain ⟨C, rfl, M⟩ := hq20
        rw [ok']
        obtain ⟨M1, M2⟩ := M ok'
        rw [ua, ub] at M1 M2
        refine sw_istore_n (lc' := [(0, _), (1, _), (2, _)]) 24 dX12_layGroups_23 rfl rfl (by decide) rfl ?_
        refine sw_aload_n 25 dX12_layGroups_24 rfl rfl rfl ?_
        refine sw_getR (b := 18) 28 dX12_layGroups_25 rfl gf_RX12_64 (fun _ _ _ _ => rfl) ⟨by decide, rfl⟩ rfl ?_
        refine sw_iload_n 29 dX12_layGroups_28 rfl rfl rfl ?_
        refine sw_iload_n 30 dX12_layGroups_29 rfl rfl rfl ?_
        refine sw_iast 31 dX12_layGroups_30 rfl ⟨by decide, rfl⟩ (by assumption) ?_
        refine sw_iconst (v := zI 0) 32 dX12_layGroups_31 rfl (by decide) ?_
        refine sw_istore_n (lc' := [(0, _), (1, _), (2, _), (3, _)]) 33 dX12_layGroups_32 rfl rfl (by decide) rfl ?_
        rw [zI_clampN (by omega)]
        have D : frM [9, 10, 11, 18] [14, 15, 16] g (sw_wI h20 18 k (zI k)) := frM_tr (frM_tr (frM_sub B (by decide) (by decide)) (frM_sub C (by decide) (by decide))) (frM_wI (by decide) (by decide))
        have E : frM [18] [] h20 (sw_wI h20 18 k (zI k)) := frM_wI (by decide) (by decide)
        refine inner 6 0 _ (by omega) D (rwM_fr (rwM_fr R C (by decide) (by decide)) E (by decide) (by decide)) (by rw [E.2.2 14 (by decide), C.2.2 14 (by decide)]; exact S) (rwM_fr M1 E (by decide) (by decide)) (by rw [E.2.2 15 (by decide)]; exact M2) (fun i hi => ?_) (by rw [sw_wI_at]; simp [va_up, mFT])
        rw [sw_wI_at]
        unfold va_up
        rw [if_neg (by omega), C.1 18 (by decide) (by decide), B.1 18 (by decide) (by decide)]
        exact G i hi
  refine sw_aload_n 1 dX12_layGroups_0 rfl rfl rfl ?_
  refine sw_invVV 4 dX12_layGroups_1 rfl lk_RX12_182 (m_layAnswers V kB) ⟨by decide, rfl⟩ rfl rfl (Nat.le_of_ble_eq_true rfl) (fun h1 hq1 => ?_)
  obtain ⟨A, W⟩ := hq1
  refine sw_iconst (v := zI 0) 5 dX12_layGroups_4 rfl (by decide) ?_
  refine sw_istore_n (lc' := [(0, _), (1, _)]) 6 dX12_layGroups_5 rfl rfl (by decide) rfl ?_
  exact loop (ansT n p bx).1 0 _ (by omega) (frM_sub A (by decide) (by decide)) W (fun i hi => absurd hi (Nat.not_lt_zero i))
theorem m_layG (K : okS σ) (I : IM h σ) : sw_ct wM X l (d + 4) mX12_layGroups [.ref 0] h (sw_qV wM X fun h2 => IM h2 σ ∧ tbM h2 σ.1.1.1 σ.1.1.2.1 (tabS σ) ∧ gpM h2 (tabS σ) (tabS σ).1) := sw_ct_monoV (fun h2 q => ⟨IM_fr I q.1 (by decide) (by decide), q.2⟩) (m_layGroups I.1 K.1.1)
theorem m_groupNumber {T : TbZ} (G : gpM h T T.1) (hN : T.1 ≤ 264) {k : Nat} (hk : k < T.1) : sw_ct wM X l d mX12_groupNumber [.ref 0, .int (zI k)] h (sw_qI wM X fun r h2 => h2 = h ∧ r = zI (cF T (fsT T k))) := by
  have fk := (fsT_all T k).1
  have hin1 := zI_inN (a := k) (n := 800) (by omega) (by decide)
  have Gk := G k hk
  refine sw_ct_of (by decide +kernel) (Nat.le_of_ble_eq_true rfl) rfl ?_
  have loop : ∀ (c j : Nat), j + c = fsT T k → sw_wp wM X l d mX12_groupNumber (sw_qI wM X fun r h2 => h2 = h ∧ r = zI (cF T (fsT T k))) 4 [(0, .ref 0), (1, .int (zI k)), (2, .int (zI (cF T j))), (3, .int (zI j))] [] h := by
    intro c
    induction c with
    | zero =>
      intro j hj
      have : j = fsT T k := by omega
      subst this
      refine sw_iload_n 5 dX12_groupNumber_4 rfl rfl rfl ?_
      refine sw_aload_n 6 dX12_groupNumber_5 rfl rfl rfl ?_
      refine sw_getR (b := 18) 9 dX12_groupNumber_6 rfl gf_RX12_64 (fun _ _ _ _ => rfl) ⟨by decide, rfl⟩ rfl ?_
      refine sw_iload_n 10 dX12_groupNumber_9 rfl rfl rfl ?_
      refine sw_iald 11 dX12_groupNumber_10 rfl ⟨by decide, rfl⟩ (by assumption) ?_
      rw [zI_clampN (by omega), Gk]
      refine sw_icmp_ge 38 14 dX12_groupNumber_11 (by decide) rfl (fun c11 => ?_) (fun c11 => ?_)
      · refine sw_iload_n 39 dX12_groupNumber_38 rfl rfl rfl ?_
        exact sw_iret dX12_groupNumber_39 rfl (⟨rfl, rfl⟩)
      · exact absurd (Int32.le_refl _) c11
    | succ c ih =>
      intro j hj
      have hin2 := zI_inN (a := j) (n := 800) (by omega) (by decide)
      have Gj := G j (by omega)
      have fj := (fsT_all T j).1
      have cj := cF_le T j
      have i9 := ih (j + 1) (by omega)
      have e9 : cF T (j + 1) = cF T j + if fsT T j = j then 1 else 0 := rfl
      refine sw_iload_n 5 dX12_groupNumber_4 rfl rfl rfl ?_
      refine sw_aload_n 6 dX12_groupNumber_5 rfl rfl rfl ?_
      refine sw_getR (b := 18) 9 dX12_groupNumber_6 rfl gf_RX12_64 (fun _ _ _ _ => rfl) ⟨by decide, rfl⟩ rfl ?_
      refine sw_iload_n 10 dX12_groupNumber_9 rfl rfl rfl ?_
      refine sw_iald 11 dX12_groupNumber_10 rfl ⟨by decide, rfl⟩ (by assumption) ?_
      rw [zI_clampN (by omega), Gk]
      refine sw_icmp_ge 38 14 dX12_groupNumber_11 (by decide) rfl (fun c11 => ?_) (fun c11 => ?_)
      · exact absurd c11 (by rw [zI_le (by omega) (by omega) (by omega) (by omega)]; omega)
      · refine sw_iload_n 15 dX12_groupNumber_14 rfl rfl rfl ?_
        refine sw_aload_n 16 dX12_groupNumber_15 rfl rfl rfl ?_
        refine sw_getR (b := 18) 19 dX12_groupNumber_16 rfl gf_RX12_64 (fun _ _ _ _ => rfl) ⟨by decide, rfl⟩ rfl ?_
        refine sw_iload_n 20 dX12_groupNumber_19 rfl rfl rfl ?_
        refine sw_iald 21 dX12_groupNumber_20 rfl ⟨by decide, rfl⟩ (by assumption) ?_
        rw [zI_clampN (by omega), Gj]
        refine sw_iload_n 22 dX12_groupNumber_21 rfl rfl rfl ?_
        refine sw_icmp_ne 29 25 dX12_groupNumber_22 (by decide) rfl (fun c22 => ?_) (fun c22 => ?_)
        · refine sw_iconst (v := zI 0) 30 dX12_groupNumber_29 rfl (by decide) ?_
          refine sw_iadd 31 dX12_groupNumber_30 rfl ?_
          refine sw_istore_n (lc' := [(0, _), (1, _), (2, _), (3, _)]) 32 dX12_groupNumber_31 rfl rfl (by decide) rfl ?_
          refine sw_iinc (v := zI 1) (lc' := [(0, _), (1, _), (2, _), (3, _)]) 35 dX12_groupNumber_32 rfl (by decide) rfl rfl rfl ?_
          refine sw_goto 4 dX12_groupNumber_35 (by decide) ?_
          rw [zI_eq (by omega) (by omega) (by omega) (by omega)] at c22
          rw [e9, if_neg (by omega), Nat.add_zero] at i9
          simp only [zI_add]
          exact i9
        · refine sw_iconst (v := zI 1) 26 dX12_groupNumber_25 rfl (by decide) ?_
          refine sw_goto 30 dX12_groupNumber_26 (by decide) ?_
          refine sw_iadd 31 dX12_groupNumber_30 rfl ?_
          refine sw_istore_n (lc' := [(0, _), (1, _), (2, _), (3, _)]) 32 dX12_groupNumber_31 rfl rfl (by decide) rfl ?_
          refine sw_iinc (v := zI 1) (lc' := [(0, _), (1, _), (2, _), (3, _)]) 35 dX12_groupNumber_32 rfl (by decide) rfl rfl rfl ?_
          refine sw_goto 4 dX12_groupNumber_35 (by decide) ?_
          rw [zI_eq (by omega) (by omega) (by omega) (by omega)] at c22
          rw [e9, if_pos (by omega)] at i9
          simp only [zI_add]
          exact i9
  refine sw_iconst (v := zI 0) 1 dX12_groupNumber_0 rfl (by decide) ?_
  refine sw_istore_n (lc' := [(0, _), (1, _), (2, _)]) 2 dX12_groupNumber_1 rfl rfl (by decide) rfl ?_
  refine sw_iconst (v := zI 0) 3 dX12_groupNumber_2 rfl (by decide) ?_
  refine sw_istore_n (lc' := [(0, _), (1, _), (2, _), (3, _)]) 4 dX12_groupNumber_3 rfl rfl (by decide) rfl ?_
  exact loop (fsT T k) 0 (by omega)
theorem m_groups (K : okS σ) (I : IM h σ) : sw_ct wM X l (d + 5) mX12_groups [.ref 0] h (sw_qI wM X fun r h2 => IM h2 σ ∧ r = zI (gcS σ)) := by
  have hN := tabS_264 K
  have eg : gcS σ = cF (tabS σ) (tabS σ).1 := (grp_all K.1.1).2
  refine sw_ct_of (by decide +kernel) (Nat.le_of_ble_eq_true rfl) rfl ?_
  have loop : ∀ (g : sw_H), IM g σ → tbM g σ.1.1.1 σ.1.1.2.1 (tabS σ) → gpM g (tabS σ) (tabS σ).1 → ∀ (c k : Nat), k + c = (tabS σ).1 → sw_wp wM X l (d + 5) mX12_groups (sw_qI wM X fun r h2 => IM h2 σ ∧ r = zI (gcS σ)) 8 [(0, .ref 0), (1, .int (zI (cF (tabS σ) k))), (2, .int (zI k))] [] g := by
    intro g Ig W G c
    induction c with
    | zero =>
      intro k hk
      have : k = (tabS σ).1 := by omega
      subst this
      refine sw_iload_n 9 dX12_groups_8 rfl rfl rfl ?_
      refine sw_aload_n 10 dX12_groups_9 rfl rfl rfl ?_
      refine sw_getI 13 dX12_groups_10 rfl gf_RX12_167 rfl ⟨by decide, rfl⟩ ?_
      rw [W.1]
      refine sw_icmp_ge 40 16 dX12_groups_13 (by decide) rfl (fun c13 => ?_) (fun c13 => ?_)
      · refine sw_iload_n 41 dX12_groups_40 rfl rfl rfl ?_
        exact sw_iret dX12_groups_41 rfl (⟨Ig, by rw [eg]⟩)
      · exact absurd (Int32.le_refl _) c13
    | succ c ih =>
      intro k hk
      have hin2 := zI_inN (a := k) (n := 800) (by omega) (by decide)
      have Gk := G k (by omega)
      have fk := (fsT_all (tabS σ) k).1
      have ck := cF_le (tabS σ) k
      have i9 := ih (k + 1) (by omega)
      have e9 : cF (tabS σ) (k + 1) = cF (tabS σ) k + if fsT (tabS σ) k = k then 1 else 0 := rfl
      refine sw_iload_n 9 dX12_groups_8 rfl rfl rfl ?_
      refine sw_aload_n 10 dX12_groups_9 rfl rfl rfl ?_
      refine sw_getI 13 dX12_groups_10 rfl gf_RX12_167 rfl ⟨by decide, rfl⟩ ?_
      rw [W.1]
      refine sw_icmp_ge 40 16 dX12_groups_13 (by decide) rfl (fun c13 => ?_) (fun c13 => ?_)
      · exact absurd c13 (by rw [zI_le (by omega) (by omega) (by omega) (by omega)]; omega)
      · refine sw_iload_n 17 dX12_groups_16 rfl rfl rfl ?_
        refine sw_aload_n 18 dX12_groups_17 rfl rfl rfl ?_
        refine sw_getR (b := 18) 21 dX12_groups_18 rfl gf_RX12_64 (fun _ _ _ _ => rfl) ⟨by decide, rfl⟩ rfl ?_
        refine sw_iload_n 22 dX12_groups_21 rfl rfl rfl ?_
        refine sw_iald 23 dX12_groups_22 rfl ⟨by decide, rfl⟩ (by assumption) ?_
        rw [zI_clampN (by omega), Gk]
        refine sw_iload_n 24 dX12_groups_23 rfl rfl rfl ?_
        refine sw_icmp_ne 31 27 dX12_groups_24 (by decide) rfl (fun c24 => ?_) (fun c24 => ?_)
        · refine sw_iconst (v := zI 0) 32 dX12_groups_31 rfl (by decide) ?_
          refine sw_iadd 33 dX12_groups_32 rfl ?_
          refine sw_istore_n (lc' := [(0, _), (1, _), (2, _)]) 34 dX12_groups_33 rfl rfl (by decide) rfl ?_
          refine sw_iinc (v := zI 1) (lc' := [(0, _), (1, _), (2, _)]) 37 dX12_groups_34 rfl (by decide) rfl rfl rfl ?_
          refine sw_goto 8 dX12_groups_37 (by decide) ?_
          rw [zI_eq (by omega) (by omega) (by omega) (by omega)] at c24
          rw [e9, if_neg (by omega), Nat.add_zero] at i9
          simp only [zI_add]
          exact i9
        · refine sw_iconst (v := zI 1) 28 dX12_groups_27 rfl (by decide) ?_
          refine sw_goto 32 dX12_groups_28 (by decide) ?_
          refine sw_iadd 33 dX12_groups_32 rfl ?_
          refine sw_istore_n (lc' := [(0, _), (1, _), (2, _)]) 34 dX12_groups_33 rfl rfl (by decide) rfl ?_
          refine sw_iinc (v := zI 1) (lc' := [(0, _), (1, _), (2, _)]) 37 dX12_groups_34 rfl (by decide) rfl rfl rfl ?_
          refine sw_goto 8 dX12_groups_37 (by decide) ?_
          rw [zI_eq (by omega) (by omega) (by omega) (by omega)] at c24
          rw [e9, if_pos (by omega)] at i9
          simp only [zI_add]
          exact i9
  refine sw_aload_n 1 dX12_groups_0 rfl rfl rfl ?_
  refine sw_invVV 4 dX12_groups_1 rfl lk_RX12_192 (m_layG K I) ⟨by decide, rfl⟩ rfl rfl (Nat.le_of_ble_eq_true rfl) (fun h1 hq1 => ?_)
  obtain ⟨I2, W, G⟩ := hq1
  refine sw_iconst (v := zI 0) 5 dX12_groups_4 rfl (by decide) ?_
  refine sw_istore_n (lc' := [(0, _), (1, _)]) 6 dX12_groups_5 rfl rfl (by decide) rfl ?_
  refine sw_iconst (v := zI 0) 7 dX12_groups_6 rfl (by decide) ?_
  refine sw_istore_n (lc' := [(0, _), (1, _), (2, _)]) 8 dX12_groups_7 rfl rfl (by decide) rfl ?_
  exact loop _ I2 W G (tabS σ).1 0 (by omega)
theorem grpS (K : okS σ) {k : Nat} (hk : k < (tabS σ).1) : (tabS σ).2.2.2 k = (cF (tabS σ) (fsT (tabS σ) k) : Nat) := (grp_all K.1.1).1 k hk
theorem m_groupOf (K : okS σ) (I : IM h σ) {i : Int} (i1 : -2147483648 ≤ i) (i2 : i < 2147483648) : sw_ct wM X l (d + 5) mX12_groupOf [.ref 0, .int (zI i)] h (sw_qI wM X fun r h2 => IM h2 σ ∧ r = zI (opGroupOf (tabS σ) i)) := by
  have hN := tabS_264 K
  refine sw_ct_of (by decide +kernel) (Nat.le_of_ble_eq_true rfl) rfl ?_
  refine sw_aload_n 1 dX12_groupOf_0 rfl rfl rfl ?_
  refine sw_invVV 4 dX12_groupOf_1 rfl lk_RX12_192 (m_layG K I) ⟨by decide, rfl⟩ rfl rfl (Nat.le_of_ble_eq_true rfl) (fun h1 hq1 => ?_)
  obtain ⟨I2, W, G⟩ := hq1
  refine sw_iload_n 5 dX12_groupOf_4 rfl rfl rfl ?_
  refine sw_iconst (v := zI 0) 6 dX12_groupOf_5 rfl (by decide) ?_
  refine sw_aload_n 7 dX12_groupOf_6 rfl rfl rfl ?_
  refine sw_getI 10 dX12_groupOf_7 rfl gf_RX12_167 rfl ⟨by decide, rfl⟩ ?_
  rw [W.1]
  refine sw_iconst (v := zI 1) 11 dX12_groupOf_10 rfl (by decide) ?_
  refine sw_isub 12 dX12_groupOf_11 rfl ?_
  rw [zI_sub]
  refine sw_invSI 15 dX12_groupOf_12 rfl lk_RX12_87 (c_in i1 i2 (by decide) (by decide) (by omega) (by omega)) rfl rfl (Nat.le_of_ble_eq_true rfl) (fun r12 h12 hq12 => ?_)
  obtain ⟨rfl, rfl⟩ := hq12
  refine sw_if_eq 26 18 dX12_groupOf_15 (by decide) rfl (fun c15 => ?_) (fun c15 => ?_)
  · refine sw_iconst (v := zI (-1)) 27 dX12_groupOf_26 rfl (by decide) ?_
    exact sw_iret dX12_groupOf_27 rfl (by
  rw [ifz_eq] at c15
  unfold opGroupOf; rw [if_neg (by omega)]; exact ⟨I2, rfl⟩)
  · rw [ifz_eq, Decidable.not_not] at c15
    obtain ⟨k, rfl⟩ := Int.eq_ofNat_of_zero_le c15.1
    refine sw_aload_n 19 dX12_groupOf_18 rfl rfl rfl ?_
    refine sw_iload_n 20 dX12_groupOf_19 rfl rfl rfl ?_
    refine sw_invVI 23 dX12_groupOf_20 rfl lk_RX12_195 (m_groupNumber G hN (show k < (tabS σ).1 by omega)) ⟨by decide, rfl⟩ rfl rfl (Nat.le_of_ble_eq_true rfl) (fun r20 h20 hq20 => ?_)
    obtain ⟨rfl, rfl⟩ := hq20
    refine sw_goto 27 dX12_groupOf_23 (by decide) ?_
    exact sw_iret dX12_groupOf_27 rfl (by
  unfold opGroupOf; rw [if_pos (by omega)]
  simp only [Int.toNat_natCast]
  exact ⟨I2, by rw [grpS K (by omega)]⟩)
/-- which numbers groups have -/
theorem grp_fnd (K : okS σ) (g : Int) : (0 ≤ g ∧ g < gcS σ) ↔ ¬ fndZ (tabS σ).2.2.2 g (tabS σ).1 0 = -1 := by
  have eg : gcS σ = cF (tabS σ) (tabS σ).1 := (grp_all K.1.1).2
  rw [fndZ_none]
  refine ⟨fun ⟨h1, h2⟩ q => ?_, fun q => ?_⟩
  · obtain ⟨j, j1, j2, j3⟩ := cF_on (tabS σ) (g := g.toNat) (N := (tabS σ).1) (by omega)
    refine q j (by omega) (by omega) ?_
    rw [grpS K j1, j2, j3]
    omega
  · refine Classical.byContradiction fun c => q fun j h1 h2 e => c ?_
    have hj : j < (tabS σ).1 := by omega
    rw [grpS K hj] at e
    have fj := fsT_all (tabS σ) j
    have ff : fsT (tabS σ) (fsT (tabS σ) j) = fsT (tabS σ) j := fsT_eq fj.2.1
    have m := cF_mono (tabS σ) (show fsT (tabS σ) j + 1 ≤ (tabS σ).1 by omega)
    have e9 : cF (tabS σ) (fsT (tabS σ) j + 1) = cF (tabS σ) (fsT (tabS σ) j) + if fsT (tabS σ) (fsT (tabS σ) j) = fsT (tabS σ) j then 1 else 0 := rfl
    rw [if_pos ff] at e9
    omega
theorem cntG_le (G : Nat → Int) (g : Int) : ∀ k, cntG G g k ≤ k
  | 0 => Nat.le_refl 0
  | k + 1 => by have := cntG_le G g k; unfold cntG; split <;> omega
theorem m_group (K : okS σ) (I : IM h σ) {g x : Int} (g1 : -2147483648 ≤ g) (g2 : g < 2147483648) (x1 : -2147483648 ≤ x) (x2 : x < 2147483648) : sw_ct wM X l (d + 5) mX12_group [.ref 0, .int (zI g), .int (zI x)] h (sw_qI wM X fun r h2 => IM h2 σ ∧ r = zI (opGroup (tabS σ) (gcS σ) σ g x)) := by
  have hN := tabS_264 K
  have hn := K.1.1.1
  have gf := grp_fnd K g
  refine sw_ct_of (by decide +kernel) (Nat.le_of_ble_eq_true rfl) rfl ?_
  generalize hQ : (sw_qI wM X fun r h2 => IM h2 σ ∧ r = zI (opGroup (tabS σ) (gcS σ) σ g x)) = Qc
  have loop : 0 ≤ x → x ≤ 2 → ∀ (c k : Nat) (H : sw_H), k + c = (tabS σ).1 → IM H σ → tbM H σ.1.1.1 σ.1.1.2.1 (tabS σ) → gpM H (tabS σ) (tabS σ).1 → sw_wp wM X l (d + 5) mX12_group Qc 26 [(0, .ref 0), (1, .int (zI g)), (2, .int (zI x)), (3, .int (zI (cntG (tabS σ).2.2.2 g k))), (4, .int (zI (fndZ (tabS σ).2.2.2 g k 0))), (5, .int (zI (hgtT (tabS σ) σ.1.1.1 σ.1.1.2.1 g k))), (6, .int (zI k))] [] H := by
    intro x0 x22 c
    have fb : ∀ k, k ≤ (tabS σ).1 → -1 ≤ fndZ (tabS σ).2.2.2 g k 0 ∧ fndZ (tabS σ).2.2.2 g k 0 ≤ 264 := by
      intro k hk
      by_cases e : fndZ (tabS σ).2.2.2 g k 0 = -1
      · omega
      · obtain ⟨j, j1, j2, j3, -⟩ := fndZ_at k 0 e
        omega
    induction c with
    | zero =>
      intro k H hk IH W G
      have : k = (tabS σ).1 := by omega
      subst this
      subst hQ
      have fb9 := fb (tabS σ).1 (Nat.le_refl _)
      refine sw_iload 28 dX12_group_26 rfl rfl ?_
      refine sw_aload_n 29 dX12_group_28 rfl rfl rfl ?_
      refine sw_getI 32 dX12_group_29 rfl gf_RX12_167 rfl ⟨by decide, rfl⟩ ?_
      rw [W.1]
      refine sw_icmp_ge 92 35 dX12_group_32 (by decide) rfl (fun c32 => ?_) (fun c32 => ?_)
      · refine sw_iload 94 dX12_group_92 rfl rfl ?_
        refine sw_if_ge 101 97 dX12_group_94 (by decide) rfl (fun c94 => ?_) (fun c94 => ?_)
        · rw [z0, zI_le (by omega) (by omega) (by omega) (by omega)] at c94
          refine sw_iload_n 102 dX12_group_101 rfl rfl rfl ?_
          refine sw_if_ne 109 105 dX12_group_102 (by decide) rfl (fun c102 => ?_) (fun c102 => ?_)
          · rw [z0, zI_eq (by omega) (by omega) (by omega) (by omega)] at c102
            refine sw_iload_n 110 dX12_group_109 rfl rfl rfl ?_
            refine sw_iconst (v := zI 1) 111 dX12_group_110 rfl (by decide) ?_
            refine sw_icmp_ne 119 114 dX12_group_111 (by decide) rfl (fun c111 => ?_) (fun c111 => ?_)
            · rw [zI_eq (by omega) (by omega) (by omega) (by omega)] at c111
              refine sw_iload 121 dX12_group_119 rfl rfl ?_
              exact sw_iret dX12_group_121 rfl (by
  unfold opGroup; rw [if_pos (gf.mpr (by omega)), if_neg c102, if_neg c111, if_pos (by omega)]; exact ⟨IH, rfl⟩)
            · rw [zI_eq (by omega) (by omega) (by omega) (by omega)] at c111
              refine sw_iload 116 dX12_group_114 rfl rfl ?_
              refine sw_goto 121 dX12_group_116 (by decide) ?_
              exact sw_iret dX12_group_121 rfl (by
  unfold opGroup; rw [if_pos (gf.mpr (by omega)), if_neg c102, if_pos c111]; exact ⟨IH, rfl⟩)
          · rw [z0, zI_eq (by omega) (by omega) (by omega) (by omega)] at c102
            refine sw_iload_n 106 dX12_group_105 rfl rfl rfl ?_
            refine sw_goto 121 dX12_group_106 (by decide) ?_
            exact sw_iret dX12_group_121 rfl (by
  unfold opGroup; rw [if_pos (gf.mpr (by omega)), if_pos c102]; exact ⟨IH, rfl⟩)
        · rw [z0, zI_le (by omega) (by omega) (by omega) (by omega)] at c94
          refine sw_iconst (v := zI (-1)) 98 dX12_group_97 rfl (by decide) ?_
          refine sw_goto 121 dX12_group_98 (by decide) ?_
          exact sw_iret dX12_group_121 rfl (by
  unfold opGroup; rw [if_neg (fun q => gf.mp q (by omega))]; exact ⟨IH, rfl⟩)
      · exact absurd (Int32.le_refl _) c32
    | succ c ih =>
      intro k H hk IH W G
      have hk2 : k < (tabS σ).1 := by omega
      obtain ⟨a, b, ea, eb, o, e6, ua, ub, okk, ok, F⟩ := ans_k K.1.1 hk2
      have ea : (tabS σ).2.1 k = a := ea
      have eb : (tabS σ).2.2.1 k = b := eb
      have gk := grpS K hk2
      have cb := cF_le (tabS σ) (fsT (tabS σ) k)
      have fk := (fsT_all (tabS σ) k).1
      have f0 := fb k (by omega)
      have h0 := hgtT_b (tabS σ) σ.1.1.1 σ.1.1.2.1 g k
      have n0 := cntG_le (tabS σ).2.2.2 g k
      have en : cntG (tabS σ).2.2.2 g (k + 1) = cntG (tabS σ).2.2.2 g k + if (tabS σ).2.2.2 k = g then 1 else 0 := rfl
      have ef : fndZ (tabS σ).2.2.2 g (k + 1) 0 = if fndZ (tabS σ).2.2.2 g k 0 = -1 then (if (tabS σ).2.2.2 k = g then (k : Int) else -1) else fndZ (tabS σ).2.2.2 g k 0 := fndZ_snoc
      have eh : hgtT (tabS σ) σ.1.1.1 σ.1.1.2.1 g (k + 1) = if (tabS σ).2.2.2 k = g ∧ frOK σ.1.1.1 σ.1.1.2.1 ((tabS σ).2.1 k) ((tabS σ).2.2.1 k) = true then max (hgtT (tabS σ) σ.1.1.1 σ.1.1.2.1 g k) (topZ (frU σ.1.1.1 σ.1.1.2.1 ((tabS σ).2.1 k) ((tabS σ).2.2.1 k)) 4) else hgtT (tabS σ) σ.1.1.1 σ.1.1.2.1 g k := rfl
      rw [ea, eb] at eh
      have t4 : topZ (frU σ.1.1.1 σ.1.1.2.1 a b) 4 = topZ (frU σ.1.1.1 σ.1.1.2.1 a b) σ.1.1.1 := by
        have := topZ_ext (e := frU σ.1.1.1 σ.1.1.2.1 a b) (n := σ.1.1.1) (4 - σ.1.1.1) (fun i h1 h2 => (frU_b σ.1.1.1 σ.1.1.2.1 a b i).2.2 h1)
        rw [show σ.1.1.1 + (4 - σ.1.1.1) = 4 by omega] at this
        exact this
      have tb := topZ_b (e := frU σ.1.1.1 σ.1.1.2.1 a b) (B := 6) σ.1.1.1 (fun j _ => by have := frU_b σ.1.1.1 σ.1.1.2.1 a b j; omega)
      have e1000 : ∀ i, i < σ.1.1.1 → -1000 ≤ frU σ.1.1.1 σ.1.1.2.1 a b i ∧ frU σ.1.1.1 σ.1.1.2.1 a b i ≤ 1000 := fun i hi => by have := frU_b σ.1.1.1 σ.1.1.2.1 a b i; omega
      have tail : (tabS σ).2.2.2 k = g → ∀ V9 : Int32, V9 = zI (fndZ (tabS σ).2.2.2 g (k + 1) 0) → sw_wp wM X l (d + 5) mX12_group Qc 65 [(0, .ref 0), (1, .int (zI g)), (2, .int (zI x)), (3, .int (zI (cntG (tabS σ).2.2.2 g (k + 1)))), (4, .int V9), (5, .int (zI (hgtT (tabS σ) σ.1.1.1 σ.1.1.2.1 g k))), (6, .int (zI k))] [] H := by
        intro hg V9 hV
        subst hV
        refine sw_aload_n 66 dX12_group_65 rfl rfl rfl ?_
        refine sw_iload 68 dX12_group_66 rfl rfl ?_
        refine sw_invVV 71 dX12_group_68 rfl lk_RX12_185 (m_looksAnswer IH.1 hn W hk2) ⟨by decide, rfl⟩ rfl rfl (Nat.le_of_ble_eq_true rfl) (fun h68 hq68 => ?_)
        obtain ⟨B, R, S⟩ := hq68
        rw [ea, eb] at R
        have I2 := IM_fr IH B (by decide) (by decide)
        refine sw_iload 73 dX12_group_71 rfl rfl ?_
        refine sw_aload_n 74 dX12_group_73 rfl rfl rfl ?_
        refine sw_aload_n 75 dX12_group_74 rfl rfl rfl ?_
        refine sw_getR (b := 9) 78 dX12_group_75 rfl gf_RX12_37 (fun _ _ _ _ => rfl) ⟨by decide, rfl⟩ rfl ?_
        refine sw_invVI 81 dX12_group_78 rfl lk_RX12_144 (m_heightOf I2.1 hn r9 R e1000) ⟨by decide, rfl⟩ rfl rfl (Nat.le_of_ble_eq_true rfl) (fun r78 h78 hq78 => ?_)
        obtain ⟨rfl, rfl⟩ := hq78
        refine sw_invSI 84 dX12_group_81 rfl lk_RX12_141 (c_maxZ (by omega) (by omega) (by omega) (by omega)) rfl rfl (Nat.le_of_ble_eq_true rfl) (fun r81 h81 hq81 => ?_)
        obtain ⟨rfl, rfl⟩ := hq81
        refine sw_istore (lc' := [(0, _), (1, _), (2, _), (3, _), (4, _), (5, _), (6, _)]) 86 dX12_group_84 rfl (by decide) rfl ?_
        refine sw_iinc (v := zI 1) (lc' := [(0, _), (1, _), (2, _), (3, _), (4, _), (5, _), (6, _)]) 89 dX12_group_86 rfl (by decide) rfl rfl rfl ?_
        refine sw_goto 26 dX12_group_89 (by decide) ?_
        rw [zI_add]
        rw [if_pos ⟨hg, okk⟩, t4] at eh
        rw [← eh]
        refine ih (k + 1) _ (by omega) I2 (tbM_fr W B (by decide) (by decide)) (fun i hi => ?_)
        rw [B.1 18 (by decide) (by decide)]
        exact G i hi
      refine sw_iload 28 dX12_group_26 rfl rfl ?_
      refine sw_aload_n 29 dX12_group_28 rfl rfl rfl ?_
      refine sw_getI 32 dX12_group_29 rfl gf_RX12_167 rfl ⟨by decide, rfl⟩ ?_
      rw [W.1]
      refine sw_icmp_ge 92 35 dX12_group_32 (by decide) rfl (fun c32 => ?_) (fun c32 => ?_)
      · exact absurd c32 (by rw [zI_le (by omega) (by omega) (by omega) (by omega)]; omega)
      · refine sw_aload_n 36 dX12_group_35 rfl rfl rfl ?_
        refine sw_iload 38 dX12_group_36 rfl rfl ?_
        refine sw_invVI 41 dX12_group_38 rfl lk_RX12_195 (m_groupNumber G hN hk2) ⟨by decide, rfl⟩ rfl rfl (Nat.le_of_ble_eq_true rfl) (fun r38 h38 hq38 => ?_)
        obtain ⟨rfl, rfl⟩ := hq38
        rw [← gk]
        refine sw_iload_n 42 dX12_group_41 rfl rfl rfl ?_
        refine sw_icmp_eq 48 45 dX12_group_42 (by decide) rfl (fun c42 => ?_) (fun c42 => ?_)
        · rw [zI_eq (by omega) (by omega) (by omega) (by omega)] at c42
          refine sw_iinc (v := zI 1) (lc' := [(0, _), (1, _), (2, _), (3, _), (4, _), (5, _), (6, _)]) 51 dX12_group_48 rfl (by decide) rfl rfl rfl ?_
          refine sw_iload 53 dX12_group_51 rfl rfl ?_
          refine sw_if_ge 61 56 dX12_group_53 (by decide) rfl (fun c53 => ?_) (fun c53 => ?_)
          · rw [z0, zI_le (by omega) (by omega) (by omega) (by omega)] at c53
            refine sw_iload 63 dX12_group_61 rfl rfl ?_
            refine sw_istore (lc' := [(0, _), (1, _), (2, _), (3, _), (4, _), (5, _), (6, _)]) 65 dX12_group_63 rfl (by decide) rfl ?_
            rw [zI_add]
            rw [if_pos c42] at en
            have t9 := tail c42 (zI (fndZ (tabS σ).2.2.2 g k 0)) (by rw [ef, if_neg (by omega)])
            rw [en] at t9
            exact t9
          · rw [z0, zI_le (by omega) (by omega) (by omega) (by omega)] at c53
            refine sw_iload 58 dX12_group_56 rfl rfl ?_
            refine sw_goto 63 dX12_group_58 (by decide) ?_
            refine sw_istore (lc' := [(0, _), (1, _), (2, _), (3, _), (4, _), (5, _), (6, _)]) 65 dX12_group_63 rfl (by decide) rfl ?_
            rw [zI_add]
            rw [if_pos c42] at en
            have t9 := tail c42 (zI k) (by rw [ef, if_pos (by omega), if_pos c42])
            rw [en] at t9
            exact t9
        · rw [zI_eq (by omega) (by omega) (by omega) (by omega)] at c42
          refine sw_goto 86 dX12_group_45 (by decide) ?_
          refine sw_iinc (v := zI 1) (lc' := [(0, _), (1, _), (2, _), (3, _), (4, _), (5, _), (6, _)]) 89 dX12_group_86 rfl (by decide) rfl rfl rfl ?_
          refine sw_goto 26 dX12_group_89 (by decide) ?_
          rw [zI_add]
          rw [if_neg c42, Nat.add_zero] at en
          rw [if_neg (fun q => c42 q.1)] at eh
          have ef2 : fndZ (tabS σ).2.2.2 g (k + 1) 0 = fndZ (tabS σ).2.2.2 g k 0 := by
            rw [ef]
            by_cases q : fndZ (tabS σ).2.2.2 g k 0 = -1
            · rw [if_pos q, if_neg c42, q]
            · rw [if_neg q]
          have i9 := ih (k + 1) _ (by omega) IH W G
          rw [en, ef2, eh] at i9
          exact i9
  refine sw_aload_n 1 dX12_group_0 rfl rfl rfl ?_
  refine sw_invVV 4 dX12_group_1 rfl lk_RX12_192 (m_layG K I) ⟨by decide, rfl⟩ rfl rfl (Nat.le_of_ble_eq_true rfl) (fun h1 hq1 => ?_)
  obtain ⟨I2, W, G⟩ := hq1
  refine sw_iload_n 5 dX12_group_4 rfl rfl rfl ?_
  refine sw_iconst (v := zI 0) 6 dX12_group_5 rfl (by decide) ?_
  refine sw_iconst (v := zI 2) 7 dX12_group_6 rfl (by decide) ?_
  refine sw_invSI 10 dX12_group_7 rfl lk_RX12_87 (c_in x1 x2 (by decide) (by decide) (by decide) (by decide)) rfl rfl (Nat.le_of_ble_eq_true rfl) (fun r7 h7 hq7 => ?_)
  obtain ⟨rfl, rfl⟩ := hq7
  refine sw_if_ne 15 13 dX12_group_10 (by decide) rfl (fun c10 => ?_) (fun c10 => ?_)
  · rw [ifz_eq, Decidable.not_not] at c10
    refine sw_iconst (v := zI 0) 16 dX12_group_15 rfl (by decide) ?_
    refine sw_istore_n (lc' := [(0, _), (1, _), (2, _), (3, _)]) 17 dX12_group_16 rfl rfl (by decide) rfl ?_
    refine sw_iconst (v := zI (-1)) 18 dX12_group_17 rfl (by decide) ?_
    refine sw_istore (lc' := [(0, _), (1, _), (2, _), (3, _), (4, _)]) 20 dX12_group_18 rfl (by decide) rfl ?_
    refine sw_iconst (v := zI 0) 21 dX12_group_20 rfl (by decide) ?_
    refine sw_istore (lc' := [(0, _), (1, _), (2, _), (3, _), (4, _), (5, _)]) 23 dX12_group_21 rfl (by decide) rfl ?_
    refine sw_iconst (v := zI 0) 24 dX12_group_23 rfl (by decide) ?_
    refine sw_istore (lc' := [(0, _), (1, _), (2, _), (3, _), (4, _), (5, _), (6, _)]) 26 dX12_group_24 rfl (by decide) rfl ?_
    exact loop c10.1 c10.2 (tabS σ).1 0 _ (by omega) I2 W G
  · rw [ifz_eq] at c10
    subst hQ
    refine sw_iconst (v := zI (-1)) 14 dX12_group_13 rfl (by decide) ?_
    exact sw_iret dX12_group_14 rfl (by
  unfold opGroup
  rw [if_neg (show ¬ x = 0 by omega), if_neg (show ¬ x = 1 by omega), if_neg (show ¬ x = 2 by omega)]
  refine ⟨I2, ?_⟩
  split <;> rfl)
end sw_m17
