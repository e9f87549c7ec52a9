/-! THE REFERENCE, 2: primes told and dropped, sieves -/
theorem frM_I {h h2 : sw_H} {σ τ : SgZ} {L F : List Nat} (A : frM L F h h2) (I : IM h σ) (e1 : σ.2 = τ.2) (hL : 6 ∉ L ∧ 7 ∉ L ∧ 8 ∉ L ∧ 23 ∉ L) (hF : 8 ∉ F ∧ 32 ∉ F) (b : imB h2 τ.1.1.1 τ.1.1.2.1 τ.1.1.2.2) (u : imU h2 τ.1.1.1 τ.1.2.1.1 τ.1.2.1.2) (s : imS h2 τ.1.2.2) : IM h2 τ := by
  obtain ⟨i1, i2, i3, i4, i5, i6⟩ := I
  rw [e1] at i4 i5 i6
  refine ⟨b, u, s, ?_, ⟨by rw [A.2.2 8 hF.1]; exact i5.1, fun j hj => by rw [A.1 6 (by decide) hL.1]; exact i5.2 j hj⟩, fun j hj => by rw [A.1 7 (by decide) hL.2.1, A.2.1 8 hL.2.2.1]; exact i6 j hj⟩
  rcases i4 with ⟨z1, z2⟩ | ⟨E, z1, z2, z3⟩
  · exact Or.inl ⟨z1, by rw [A.2.2 32 hF.2]; exact z2⟩
  · exact Or.inr ⟨E, z1, by rw [A.2.2 32 hF.2]; exact z2, by unfold imE; rw [A.1 23 (by decide) hL.2.2.2]; exact z3⟩
section sw_m2
variable {X : sw_X} {l : Launch} {d : Nat} {h : sw_H} {σ : SgZ}
/-- kept so far, of the first j -/
def keptN (a j : Nat) : Nat := if a < j then j - 1 else j
theorem m_forgets {k : Nat} {q : Nat → Int} (V : imS h (k, q)) (hk : k ≤ 5) (hq : ∀ i, i < k → 2 ≤ q i ∧ q i ≤ 97) (hd : ∀ i j, i < j → j < k → q i ≠ q j) {v : Int} (v1 : -2147483648 ≤ v) (v2 : v < 2147483648) :
    sw_ct wM X l d mX12_forgets [.ref 0, .int (zI v)] h (sw_qI wM X fun r h2 => frM [5] [5] h h2 ∧ imS h2 (rmS k q (fndZ q v k 0)) ∧ r = zI (if fndZ q v k 0 = -1 then 0 else 1)) := by
  obtain ⟨a, hqa, hr1, hr2, hr3⟩ : ∃ a : Nat, (∀ i, i < k → (q i = v ↔ i = a)) ∧ (rmS k q (fndZ q v k 0)).1 = keptN a k ∧ (∀ i, i < keptN a k → (rmS k q (fndZ q v k 0)).2 i = delF a q i) ∧ (if fndZ q v k 0 = -1 then (0 : Int) else 1) = (k : Int) - keptN a k := by
    by_cases c : fndZ q v k 0 = -1
    · have hn := (fndZ_none k 0).mp c
      refine ⟨k, fun i hi => ⟨fun e => absurd e (hn i (by omega) (by omega)), fun e => by omega⟩, ?_, fun i hi => ?_, ?_⟩
      · unfold rmS keptN; rw [if_pos c, if_neg (by omega)]
      · unfold keptN at hi; rw [if_neg (by omega)] at hi
        unfold rmS delF; rw [if_pos c, if_neg (by omega)]
      · unfold keptN; rw [if_pos c, if_neg (by omega)]; omega
    · obtain ⟨a, e, h1, h2, h3, h4⟩ := fndZ_at k 0 c
      refine ⟨a, fun i hi => ⟨fun e2 => ?_, fun e2 => by rw [e2]; exact h3⟩, ?_, fun i hi => ?_, ?_⟩
      · rcases Nat.lt_trichotomy i a with g | g | g
        · exact absurd e2 (h4 i (by omega) g)
        · exact g
        · exact absurd (by rw [h3, e2]) (hd a i g hi)
      · unfold rmS keptN; rw [if_neg c, if_pos (by omega)]
      · unfold rmS; rw [if_neg c, e]; rfl
      · unfold keptN; rw [if_neg c, if_pos (by omega)]; omega
  have hkl : ∀ j, keptN a j ≤ j := fun j => by unfold keptN; split <;> omega
  obtain ⟨V1, V2⟩ := V
  have V1 : h.1 0 5 = zI k := V1
  have V2 : ∀ i, i < k → h.1 5 i = zI (q i) := V2
  refine sw_ct_of (by decide +kernel) (Nat.le_of_ble_eq_true rfl) rfl ?_
  generalize hQ : (sw_qI wM X fun r h2 => frM [5] [5] h h2 ∧ imS h2 (rmS k q (fndZ q v k 0)) ∧ r = zI (if fndZ q v k 0 = -1 then 0 else 1)) = Qc
  have loop : ∀ (c j : Nat) (F : Nat → Int32), j + c = k → (∀ i, i < keptN a j → F i = zI (delF a q i)) → (∀ i, j ≤ i → i < k → F i = zI (q i)) → sw_wp wM X l d mX12_forgets Qc 4 [(0, .ref 0), (1, .int (zI v)), (2, .int (zI (keptN a j))), (3, .int (zI j))] [] (sw_pI h 5 F) := by
    intro c
    induction c with
    | zero =>
      intro j F hj h1 h2
      have : j = k := by omega
      subst this
      have e5 : (sw_pI h 5 F).1 0 5 = zI j := by rw [sw_pI_ne (by decide)]; exact V1
      subst hQ
      refine sw_iload_n 5 dX12_forgets_4 rfl rfl rfl ?_
      refine sw_aload_n 6 dX12_forgets_5 rfl rfl rfl ?_
      refine sw_getI 9 dX12_forgets_6 rfl gf_RX12_207 rfl ⟨by decide, rfl⟩ ?_
      rw [e5]
      refine sw_icmp_ge 43 12 dX12_forgets_9 (by decide) rfl (fun c9 => ?_) (fun c9 => ?_)
      · refine sw_aload_n 44 dX12_forgets_43 rfl rfl rfl ?_
        refine sw_getI 47 dX12_forgets_44 rfl gf_RX12_207 rfl ⟨by decide, rfl⟩ ?_
        refine sw_iload_n 48 dX12_forgets_47 rfl rfl rfl ?_
        rw [e5]
        refine sw_isub 49 dX12_forgets_48 rfl ?_
        rw [zI_sub]
        refine sw_istore_n (lc' := [(0, _), (1, _), (2, _), (3, _)]) 50 dX12_forgets_49 rfl rfl (by decide) rfl ?_
        refine sw_aload_n 51 dX12_forgets_50 rfl rfl rfl ?_
        refine sw_iload_n 52 dX12_forgets_51 rfl rfl rfl ?_
        refine sw_putI 55 dX12_forgets_52 rfl pf_RX12_207 rfl ⟨by decide, rfl⟩ ?_
        refine sw_iload_n 56 dX12_forgets_55 rfl rfl rfl ?_
        exact sw_iret dX12_forgets_56 rfl (⟨frM_tr (frM_pI (by decide) (by decide)) (frM_w0 (by decide)), ⟨by rw [hr1, sw_wI_at]; simp [va_up], fun i hi => by rw [hr1] at hi; rw [hr2 i hi, sw_wI_ne (by decide), sw_pI_at]; exact h1 i hi⟩, by rw [hr3]⟩)
      · exact absurd (Int32.le_refl _) c9
    | succ c ih =>
      intro j F hj h1 h2
      have hin := zI_inN (a := j) (n := 5) (by omega) (by decide)
      have hkj := hkl j
      have hin2 := zI_inN (a := keptN a j) (n := 5) (by omega) (by decide)
      have hqj := hq j (by omega)
      have e9 : (sw_pI h 5 F).1 5 j = zI (q j) := by rw [sw_pI_at]; exact h2 j (by omega) (by omega)
      have hja := hqa j (by omega)
      refine sw_iload_n 5 dX12_forgets_4 rfl rfl rfl ?_
      refine sw_aload_n 6 dX12_forgets_5 rfl rfl rfl ?_
      refine sw_getI 9 dX12_forgets_6 rfl gf_RX12_207 rfl ⟨by decide, rfl⟩ ?_
      rw [show (sw_pI h 5 F).1 0 5 = zI k from by rw [sw_pI_ne (by decide)]; exact V1]
      refine sw_icmp_ge 43 12 dX12_forgets_9 (by decide) rfl (fun c9 => ?_) (fun c9 => ?_)
      · exact absurd c9 (by rw [zI_le (by omega) (by omega) (by omega) (by omega)]; omega)
      · refine sw_aload_n 13 dX12_forgets_12 rfl rfl rfl ?_
        refine sw_getR (b := 5) 16 dX12_forgets_13 rfl gf_RX12_24 (fun _ _ _ _ => rfl) ⟨by decide, rfl⟩ rfl ?_
        refine sw_iload_n 17 dX12_forgets_16 rfl rfl rfl ?_
        refine sw_iald 18 dX12_forgets_17 rfl ⟨by decide, rfl⟩ (by assumption) ?_
        rw [zI_clampN (by omega), e9]
        refine sw_iload_n 19 dX12_forgets_18 rfl rfl rfl ?_
        refine sw_icmp_eq 37 22 dX12_forgets_19 (by decide) rfl (fun c19 => ?_) (fun c19 => ?_)
        · refine sw_iinc (v := zI 1) (lc' := [(0, _), (1, _), (2, _), (3, _)]) 40 dX12_forgets_37 rfl (by decide) rfl rfl rfl ?_
          refine sw_goto 4 dX12_forgets_40 (by decide) ?_
          rw [zI_eq (by omega) (by omega) (by omega) (by omega), hja] at c19
          rw [zI_add]
          have ek : keptN a (j + 1) = keptN a j := by unfold keptN; split <;> split <;> omega
          have g := ih (j + 1) F (by omega) (fun i hi => h1 i (by rw [ek] at hi; exact hi)) (fun i i1 i2 => h2 i (by omega) i2)
          rw [ek] at g
          exact g
        · refine sw_aload_n 23 dX12_forgets_22 rfl rfl rfl ?_
          refine sw_getR (b := 5) 26 dX12_forgets_23 rfl gf_RX12_24 (fun _ _ _ _ => rfl) ⟨by decide, rfl⟩ rfl ?_
          refine sw_iload_n 27 dX12_forgets_26 rfl rfl rfl ?_
          refine sw_aload_n 28 dX12_forgets_27 rfl rfl rfl ?_
          refine sw_getR (b := 5) 31 dX12_forgets_28 rfl gf_RX12_24 (fun _ _ _ _ => rfl) ⟨by decide, rfl⟩ rfl ?_
          refine sw_iload_n 32 dX12_forgets_31 rfl rfl rfl ?_
          refine sw_iald 33 dX12_forgets_32 rfl ⟨by decide, rfl⟩ (by assumption) ?_
          refine sw_iast 34 dX12_forgets_33 rfl ⟨by decide, rfl⟩ (by assumption) ?_
          refine sw_iinc (v := zI 1) (lc' := [(0, _), (1, _), (2, _), (3, _)]) 37 dX12_forgets_34 rfl (by decide) rfl rfl rfl ?_
          refine sw_iinc (v := zI 1) (lc' := [(0, _), (1, _), (2, _), (3, _)]) 40 dX12_forgets_37 rfl (by decide) rfl rfl rfl ?_
          refine sw_goto 4 dX12_forgets_40 (by decide) ?_
          rw [zI_eq (by omega) (by omega) (by omega) (by omega), hja] at c19
          rw [zI_clampN (by omega), zI_clampN (by omega), e9, sw_wI_pI, zI_add, zI_add]
          have ek : keptN a (j + 1) = keptN a j + 1 := by unfold keptN; split <;> split <;> omega
          have g := ih (j + 1) (va_up F (keptN a j) (zI (q j))) (by omega) (fun i hi => ?_) (fun i i1 i2 => ?_)
          · rw [ek] at g; exact g
          · rw [ek] at hi
            unfold va_up
            by_cases e : i = keptN a j
            · rw [if_pos e, e]
              congr 1
              unfold keptN delF
              by_cases g : a < j
              · rw [if_pos g, if_pos (by omega), show j - 1 + 1 = j by omega]
              · rw [if_neg g, if_neg (by omega)]
            · rw [if_neg e]; exact h1 i (by omega)
          · unfold va_up; rw [if_neg (by omega)]; exact h2 i (by omega) i2
  refine sw_iconst (v := zI 0) 1 dX12_forgets_0 rfl (by decide) ?_
  refine sw_istore_n (lc' := [(0, _), (1, _), (2, _)]) 2 dX12_forgets_1 rfl rfl (by decide) rfl ?_
  refine sw_iconst (v := zI 0) 3 dX12_forgets_2 rfl (by decide) ?_
  refine sw_istore_n (lc' := [(0, _), (1, _), (2, _), (3, _)]) 4 dX12_forgets_3 rfl rfl (by decide) rfl ?_
  have g := loop k 0 (h.1 5) (by omega) (fun i hi => by have := hkl 0; omega) (fun i _ hi => V2 i hi)
  rw [sw_pI_self rfl, show keptN a 0 = 0 by have := hkl 0; omega] at g
  exact g
theorem m_moves {f t : Nat} (hf : f < 4) (ht : t < 4) : sw_ct wM X l d mX12_moves [.ref 0, .int (zI f), .int (zI t)] h (sw_qV wM X fun h2 => frM [1, 2, 3] [] h h2 ∧ h2.1 1 = va_up (h.1 1) t (h.1 1 f) ∧ h2.1 2 = va_up (h.1 2) t (h.1 2 f) ∧ ∀ s, s < 4 → ∀ i, i < 4 → h2.1 3 (4 * s + i) = if i = t then h.1 3 (4 * s + f) else h.1 3 (4 * s + i)) := by
  refine sw_ct_of (by decide +kernel) (Nat.le_of_ble_eq_true rfl) rfl ?_
  generalize hQ : (sw_qV wM X fun h2 => frM [1, 2, 3] [] h h2 ∧ h2.1 1 = va_up (h.1 1) t (h.1 1 f) ∧ h2.1 2 = va_up (h.1 2) t (h.1 2 f) ∧ ∀ s, s < 4 → ∀ i, i < 4 → h2.1 3 (4 * s + i) = if i = t then h.1 3 (4 * s + f) else h.1 3 (4 * s + i)) = Qc
  have hin1 := zI_inN (a := f) (n := 5) (by omega) (by decide)
  have hin2 := zI_inN (a := t) (n := 5) (by omega) (by decide)
  have loop : ∀ (g : sw_H), frM [1, 2] [] h g → g.1 1 = va_up (h.1 1) t (h.1 1 f) → g.1 2 = va_up (h.1 2) t (h.1 2 f) → ∀ (c j : Nat) (F : Nat → Int32), j + c = 4 → (∀ s, s < 4 → ∀ i, i < 4 → F (4 * s + i) = if s < j ∧ i = t then h.1 3 (4 * s + f) else h.1 3 (4 * s + i)) → sw_wp wM X l d mX12_moves Qc 26 [(0, .ref 0), (1, .int (zI f)), (2, .int (zI t)), (3, .int (zI j))] [] (sw_pI g 3 F) := by
    intro g A g1 g2 c
    induction c with
    | zero =>
      intro j F hj hF
      have : j = 4 := by omega
      subst this
      subst hQ
      refine sw_iload_n 27 dX12_moves_26 rfl rfl rfl ?_
      refine sw_iconst (v := zI 4) 28 dX12_moves_27 rfl (by decide) ?_
      refine sw_icmp_ge 62 31 dX12_moves_28 (by decide) rfl (fun c28 => ?_) (fun c28 => ?_)
      · exact sw_vret dX12_moves_62 rfl (⟨frM_tr (frM_sub A (by decide) (by decide)) (frM_pI (by decide) (by decide)), by rw [sw_pI_ne (by decide)]; exact g1, by rw [sw_pI_ne (by decide)]; exact g2, fun s hs i hi => by
  rw [sw_pI_at, hF s hs i hi]
  by_cases c : i = t
  · rw [if_pos ⟨hs, c⟩, if_pos c]
  · rw [if_neg (fun hh => c hh.2), if_neg c]⟩)
      · exact absurd (Int32.le_refl _) c28
    | succ c ih =>
      intro j F hj hF
      have e1 : zI 4 * zI j + zI t = zI ((4 * j + t : Nat) : Int) := by rw [zI_mul, zI_add]; rfl
      have e2 : zI 4 * zI j + zI f = zI ((4 * j + f : Nat) : Int) := by rw [zI_mul, zI_add]; rfl
      have hin3 := zI_inN (a := 4 * j + t) (n := 20) (by omega) (by decide)
      have hin4 := zI_inN (a := 4 * j + f) (n := 20) (by omega) (by decide)
      refine sw_iload_n 27 dX12_moves_26 rfl rfl rfl ?_
      refine sw_iconst (v := zI 4) 28 dX12_moves_27 rfl (by decide) ?_
      refine sw_icmp_ge 62 31 dX12_moves_28 (by decide) rfl (fun c28 => ?_) (fun c28 => ?_)
      · exact absurd c28 (by rw [zI_le (by omega) (by omega) (by omega) (by omega)]; omega)
      · refine sw_iload_n 32 dX12_moves_31 rfl rfl rfl ?_
        refine sw_iconst (v := zI 4) 33 dX12_moves_32 rfl (by decide) ?_
        refine sw_icmp_ge 56 36 dX12_moves_33 (by decide) rfl (fun c33 => ?_) (fun c33 => ?_)
        · exact absurd c33 (by rw [zI_le (by omega) (by omega) (by omega) (by omega)]; omega)
        · refine sw_aload_n 37 dX12_moves_36 rfl rfl rfl ?_
          refine sw_getR (b := 3) 40 dX12_moves_37 rfl gf_RX12_18 (fun _ _ _ _ => rfl) ⟨by decide, rfl⟩ rfl ?_
          refine sw_iconst (v := zI 4) 41 dX12_moves_40 rfl (by decide) ?_
          refine sw_iload_n 42 dX12_moves_41 rfl rfl rfl ?_
          refine sw_imul 43 dX12_moves_42 rfl ?_
          refine sw_iload_n 44 dX12_moves_43 rfl rfl rfl ?_
          refine sw_iadd 45 dX12_moves_44 rfl ?_
          rw [e1]
          refine sw_aload_n 46 dX12_moves_45 rfl rfl rfl ?_
          refine sw_getR (b := 3) 49 dX12_moves_46 rfl gf_RX12_18 (fun _ _ _ _ => rfl) ⟨by decide, rfl⟩ rfl ?_
          refine sw_iconst (v := zI 4) 50 dX12_moves_49 rfl (by decide) ?_
          refine sw_iload_n 51 dX12_moves_50 rfl rfl rfl ?_
          refine sw_imul 52 dX12_moves_51 rfl ?_
          refine sw_iload_n 53 dX12_moves_52 rfl rfl rfl ?_
          refine sw_iadd 54 dX12_moves_53 rfl ?_
          rw [e2]
          refine sw_iald 55 dX12_moves_54 rfl ⟨by decide, rfl⟩ (by assumption) ?_
          refine sw_iast 56 dX12_moves_55 rfl ⟨by decide, rfl⟩ (by assumption) ?_
          refine sw_iinc (v := zI 1) (lc' := [(0, _), (1, _), (2, _), (3, _)]) 59 dX12_moves_56 rfl (by decide) rfl rfl rfl ?_
          refine sw_goto 26 dX12_moves_59 (by decide) ?_
          rw [zI_clampN (by omega), zI_clampN (by omega), sw_pI_at, sw_wI_pI, zI_add]
          refine ih (j + 1) _ (by omega) (fun s hs i hi => ?_)
          unfold va_up
          have hf4 := hF j (by omega) f hf
          by_cases c1 : 4 * s + i = 4 * j + t
          · have es : s = j := by omega
            have ei : i = t := by omega
            rw [if_pos c1, hf4, if_neg (by omega), if_pos ⟨by omega, ei⟩, es]
          · rw [if_neg c1, hF s hs i hi]
            by_cases c2 : s < j ∧ i = t
            · rw [if_pos c2, if_pos ⟨by omega, c2.2⟩]
            · rw [if_neg c2, if_neg (by omega)]
  refine sw_aload_n 1 dX12_moves_0 rfl rfl rfl ?_
  refine sw_getR (b := 1) 4 dX12_moves_1 rfl gf_RX12_9 (fun _ _ _ _ => rfl) ⟨by decide, rfl⟩ rfl ?_
  refine sw_iload_n 5 dX12_moves_4 rfl rfl rfl ?_
  refine sw_aload_n 6 dX12_moves_5 rfl rfl rfl ?_
  refine sw_getR (b := 1) 9 dX12_moves_6 rfl gf_RX12_9 (fun _ _ _ _ => rfl) ⟨by decide, rfl⟩ rfl ?_
  refine sw_iload_n 10 dX12_moves_9 rfl rfl rfl ?_
  refine sw_iald 11 dX12_moves_10 rfl ⟨by decide, rfl⟩ (by assumption) ?_
  refine sw_iast 12 dX12_moves_11 rfl ⟨by decide, rfl⟩ (by assumption) ?_
  refine sw_aload_n 13 dX12_moves_12 rfl rfl rfl ?_
  refine sw_getR (b := 2) 16 dX12_moves_13 rfl gf_RX12_15 (fun _ _ _ _ => rfl) ⟨by decide, rfl⟩ rfl ?_
  refine sw_iload_n 17 dX12_moves_16 rfl rfl rfl ?_
  refine sw_aload_n 18 dX12_moves_17 rfl rfl rfl ?_
  refine sw_getR (b := 2) 21 dX12_moves_18 rfl gf_RX12_15 (fun _ _ _ _ => rfl) ⟨by decide, rfl⟩ rfl ?_
  refine sw_iload_n 22 dX12_moves_21 rfl rfl rfl ?_
  refine sw_iald 23 dX12_moves_22 rfl ⟨by decide, rfl⟩ (by assumption) ?_
  refine sw_iast 24 dX12_moves_23 rfl ⟨by decide, rfl⟩ (by assumption) ?_
  refine sw_iconst (v := zI 0) 25 dX12_moves_24 rfl (by decide) ?_
  refine sw_istore_n (lc' := [(0, _), (1, _), (2, _), (3, _)]) 26 dX12_moves_25 rfl rfl (by decide) rfl ?_
  rw [zI_clampN (by omega), zI_clampN (by omega)]
  have g := loop (sw_wI (sw_wI h 1 t (h.1 1 f)) 2 t ((sw_wI h 1 t (h.1 1 f)).1 2 f)) (frM_tr (frM_wI (by decide) (by decide)) (frM_wI (by decide) (by decide))) (by rw [sw_wI_ne (by decide), sw_wI_at]) (by rw [sw_wI_at, sw_wI_ne (by decide)]) 4 0 (h.1 3) (by omega) (fun s hs i hi => by rw [if_neg (by omega)])
  rw [sw_pI_self (by rw [sw_wI_ne (by decide), sw_wI_ne (by decide)])] at g
  exact g
end sw_m2
