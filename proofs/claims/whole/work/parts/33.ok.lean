/-! THE STATE STAYS WELL FORMED -/
theorem fndZ_none {p : Nat → Int} {v : Int} : ∀ (m i : Nat), fndZ p v m i = -1 ↔ ∀ j, i ≤ j → j < i + m → ¬ p j = v
  | 0, i => ⟨fun _ j h1 h2 => by omega, fun _ => rfl⟩
  | m + 1, i => by
    unfold fndZ
    by_cases e : p i = v
    · rw [if_pos e]
      exact ⟨fun h => by omega, fun h => absurd e (h i (by omega) (by omega))⟩
    · rw [if_neg e, fndZ_none m (i + 1)]
      refine ⟨fun h j h1 h2 => ?_, fun h j h1 h2 => h j (by omega) (by omega)⟩
      by_cases c : j = i
      · subst c; exact e
      · exact h j (by omega) (by omega)
theorem fndZ_at {p : Nat → Int} {v : Int} : ∀ (m i : Nat), ¬ fndZ p v m i = -1 → ∃ k : Nat, fndZ p v m i = k ∧ i ≤ k ∧ k < i + m ∧ p k = v ∧ ∀ j, i ≤ j → j < k → ¬ p j = v
  | 0, i, h => absurd rfl h
  | m + 1, i, h => by
    unfold fndZ at h ⊢
    by_cases e : p i = v
    · rw [if_pos e]; exact ⟨i, rfl, by omega, by omega, e, fun j h1 h2 => by omega⟩
    · rw [if_neg e] at h ⊢
      obtain ⟨k, h1, h2, h3, h4, h5⟩ := fndZ_at m (i + 1) h
      refine ⟨k, h1, by omega, by omega, h4, fun j j1 j2 => ?_⟩
      by_cases c : j = i
      · subst c; exact e
      · exact h5 j (by omega) j2
theorem insAt_spec (p : Nat → Int) (v : Int) : ∀ n, (∀ j, insAt p v n ≤ j → j < n → v < p j) ∧ (0 < insAt p v n → p (insAt p v n - 1) ≤ v)
  | 0 => ⟨fun j h1 h2 => by omega, fun h => absurd h (Nat.lt_irrefl 0)⟩
  | n + 1 => by
    have ih := insAt_spec p v n
    have hle := insAt_le p v n
    unfold insAt
    by_cases c : v < p n
    · rw [if_pos c]
      refine ⟨fun j h1 h2 => ?_, ih.2⟩
      by_cases e : j = n
      · subst e; exact c
      · exact ih.1 j h1 (by omega)
    · rw [if_neg c]
      refine ⟨fun j h1 h2 => by omega, fun _ => ?_⟩
      rw [show n + 1 - 1 = n by omega]; omega
theorem prodZ_congr {p q : Nat → Int} : ∀ n, (∀ i, i < n → p i = q i) → prodZ p n = prodZ q n
  | 0, _ => rfl
  | n + 1, h => by unfold prodZ; rw [prodZ_congr n (fun i hi => h i (by omega)), h n (by omega)]
theorem prodZ_insR {p : Nat → Int} {v : Int} {t n : Nat} (ht : t ≤ n) : ∀ m, t ≤ m → m ≤ n → prodZ (insR t n v p) (m + 1) = prodZ p m * v
  | 0, h1, h2 => by
    have e : t = 0 := by omega
    subst e
    show prodZ (insR 0 n v p) 0 * insR 0 n v p 0 = _
    rw [insR_eq]; rfl
  | m + 1, h1, h2 => by
    show prodZ (insR t n v p) (m + 1) * insR t n v p (m + 1) = prodZ p m * p m * v
    by_cases e : t = m + 1
    · subst e
      rw [insR_eq, prodZ_congr (q := p) (m + 1) (fun i hi => insR_lt hi)]; rfl
    · rw [prodZ_insR ht m (by omega) (by omega), insR_gt (by omega) h2, show m + 1 - 1 = m by omega, Int.mul_assoc, Int.mul_comm v, ← Int.mul_assoc]
theorem rmR_lt {α : Type} {a m i : Nat} {f : Nat → α} (h : i < a) : rmR a m f i = f i := by unfold rmR; rw [if_neg (by omega)]
theorem rmR_ge {α : Type} {a m i : Nat} {f : Nat → α} (h : a ≤ i) (h2 : i < m) : rmR a m f i = f (i + 1) := by unfold rmR; rw [if_pos ⟨h, h2⟩]
theorem prodZ_rmR {p : Nat → Int} {a n : Nat} : ∀ m, a ≤ m → m ≤ n → prodZ (rmR a n p) m * p a = prodZ p (m + 1)
  | 0, h1, h2 => by rw [show a = 0 by omega]; rfl
  | m + 1, h1, h2 => by
    by_cases e : a = m + 1
    · subst e
      rw [prodZ_congr (q := p) (m + 1) (fun i hi => rmR_lt hi)]; rfl
    · show prodZ (rmR a n p) m * rmR a n p m * p a = prodZ p (m + 1) * p (m + 1)
      rw [rmR_ge (by omega) (by omega), Int.mul_assoc, Int.mul_comm (p (m + 1)), ← Int.mul_assoc, prodZ_rmR m (by omega) (by omega)]
def okV (n : Nat) (p : Nat → Int) (z : Nat × (Nat → Int)) : Prop := z.1 ≤ 4 ∧ (∀ i, i < z.1 → isPr (z.2 i) = true ∧ 3 ≤ z.2 i ∧ z.2 i ≤ 97 ∧ ∀ j, j < n → p j ≠ z.2 i) ∧ ∀ i j, i < j → j < z.1 → z.2 i ≠ z.2 j
theorem okV_del {n : Nat} {p : Nat → Int} {k : Nat} {q : Nat → Int} (h : okV n p (k, q)) {a : Nat} (ha : a < k) : okV n p (k - 1, delF a q) := by
  obtain ⟨h1, h2, h3⟩ := h
  have h1 : k ≤ 4 := h1
  refine ⟨by show k - 1 ≤ 4; omega, fun i hi => ?_, fun i j hij hj => ?_⟩
  · have hi : i < k - 1 := hi
    show isPr (delF a q i) = true ∧ 3 ≤ delF a q i ∧ delF a q i ≤ 97 ∧ ∀ j, j < n → p j ≠ delF a q i
    unfold delF
    split
    · exact h2 (i + 1) (show i + 1 < k by omega)
    · exact h2 i (show i < k by omega)
  · have hj : j < k - 1 := hj
    show delF a q i ≠ delF a q j
    unfold delF
    split <;> split
    · exact h3 (i + 1) (j + 1) (by omega) (show j + 1 < k by omega)
    · omega
    · exact h3 i (j + 1) (by omega) (show j + 1 < k by omega)
    · exact h3 i j hij (show j < k by omega)
theorem okV_rm {n : Nat} {p : Nat → Int} {k : Nat} {q : Nat → Int} (h : okV n p (k, q)) (v : Int) : okV n p (rmS k q (fndZ q v k 0)) ∧ ∀ i, i < (rmS k q (fndZ q v k 0)).1 → ¬ (rmS k q (fndZ q v k 0)).2 i = v := by
  unfold rmS
  by_cases c : fndZ q v k 0 = -1
  · rw [if_pos c]
    exact ⟨h, fun i hi => (fndZ_none k 0).mp c i (by omega) (by have : i < k := hi; omega)⟩
  · rw [if_neg c]
    obtain ⟨a, e, h1, h2, h3, h4⟩ := fndZ_at k 0 c
    rw [e]
    refine ⟨okV_del h (by omega), fun i hi => ?_⟩
    have hi : i < k - 1 := hi
    show ¬ delF ((a : Nat) : Int).toNat q i = v
    rw [Int.toNat_natCast]
    unfold delF
    split
    · intro e2
      exact h.2.2 a (i + 1) (by omega) (show i + 1 < k by omega) (by show q a = q (i + 1); rw [h3, e2])
    · exact h4 i (by omega) (by omega)
theorem okV_ask {n : Nat} {p : Nat → Int} {k : Nat} {q : Nat → Int} (h : okV n p (k, q)) {v : Int} (v1 : isPr v = true) (v2 : 3 ≤ v) (v3 : v ≤ 97) (v4 : ∀ j, j < n → p j ≠ v) : okV n p (askS k q v) := by
  have h1 := okV_rm h v
  unfold askS
  generalize rmS k q (fndZ q v k 0) = z at h1
  obtain ⟨g1, g2⟩ := h1
  have g3 : okV n p (capS z) ∧ (capS z).1 ≤ 3 ∧ ∀ i, i < (capS z).1 → ¬ (capS z).2 i = v := by
    unfold capS
    by_cases c : 4 ≤ z.1
    · rw [if_pos c]
      have := g1.1
      refine ⟨okV_del (k := z.1) (q := z.2) g1 (by omega), by show z.1 - 1 ≤ 3; omega, fun i hi => ?_⟩
      have hi : i < z.1 - 1 := hi
      show ¬ delF 0 z.2 i = v
      unfold delF
      rw [if_pos (by omega)]
      exact g2 (i + 1) (by omega)
    · rw [if_neg c]; exact ⟨g1, by omega, g2⟩
  generalize capS z = y at g3
  obtain ⟨⟨a1, a2, a3⟩, b1, b2⟩ := g3
  unfold pushS
  refine ⟨by show y.1 + 1 ≤ 4; omega, fun i hi => ?_, fun i j hij hj => ?_⟩
  · have hi : i < y.1 + 1 := hi
    show isPr (if i = y.1 then v else y.2 i) = true ∧ 3 ≤ (if i = y.1 then v else y.2 i) ∧ (if i = y.1 then v else y.2 i) ≤ 97 ∧ ∀ j, j < n → p j ≠ (if i = y.1 then v else y.2 i)
    by_cases e : i = y.1
    · rw [if_pos e]; exact ⟨v1, v2, v3, v4⟩
    · rw [if_neg e]; exact a2 i (by omega)
  · have hj : j < y.1 + 1 := hj
    show (if i = y.1 then v else y.2 i) ≠ (if j = y.1 then v else y.2 j)
    rw [if_neg (by omega)]
    by_cases e : j = y.1
    · rw [if_pos e]; exact b2 i (by omega)
    · rw [if_neg e]; exact a3 i j hij (by omega)
section sw_okk
variable {σ : SgZ}
theorem k_prime (K : okS σ) (v : Int) : okS (opPrime σ v).2 := by
  unfold opPrime
  by_cases c1 : prmZ v 2 31 = false
  · rw [if_pos c1]; exact K
  rw [if_neg c1]
  by_cases c2 : fndZ σ.1.1.2.1 v σ.1.1.1 0 = -1
  case neg => rw [if_pos c2]; exact K
  rw [if_neg (by omega)]
  by_cases c3 : 4 ≤ σ.1.1.1 ∨ 1000 < prodZ σ.1.1.2.1 σ.1.1.1 * v
  · rw [if_pos c3]; exact K
  rw [if_neg c3]
  rw [Bool.not_eq_false] at c1
  obtain ⟨⟨⟨k1, k2, k3, k4, k5⟩, k6, k7⟩, k8⟩ := K
  have hv := prmZ_in c1
  have hpr := prmZ_pr c1
  have hat := insAt_le σ.1.1.2.1 v σ.1.1.1
  have hsp := insAt_spec σ.1.1.2.1 v σ.1.1.1
  have hno := (fndZ_none σ.1.1.1 0).mp c2
  have hpi := prodZ_insR (p := σ.1.1.2.1) (v := v) hat σ.1.1.1 hat (Nat.le_refl _)
  generalize insAt σ.1.1.2.1 v σ.1.1.1 = t at hat hsp hpi ⊢
  have lt1 : ∀ j, j < t → σ.1.1.2.1 j < v := by
    intro j hj
    have h1 := hsp.2 (by omega)
    have h2 := hno (t - 1) (by omega) (by omega)
    by_cases e : j = t - 1
    · subst e; omega
    · have := k3 j (t - 1) (by omega) (by omega); omega
  refine ⟨⟨⟨by show σ.1.1.1 + 1 ≤ 4; omega, fun i hi => ?_, fun i j hij hj => ?_, ?_, fun i hi => ?_⟩, fun s hs => ?_, ?_⟩, k8⟩
  · exact insR_all (fun x => isPr x = true ∧ 2 ≤ x ∧ x ≤ 31) ⟨hpr, hv⟩ (fun j hj => k2 j hj) hat hi
  · have hj : j < σ.1.1.1 + 1 := hj
    show insR t σ.1.1.1 v σ.1.1.2.1 i < insR t σ.1.1.1 v σ.1.1.2.1 j
    by_cases a1 : i < t
    · rw [insR_lt a1]
      by_cases a2 : j < t
      · rw [insR_lt a2]; exact k3 i j hij (by omega)
      · by_cases a3 : j = t
        · subst a3; rw [insR_eq]; exact lt1 i a1
        · rw [insR_gt (by omega) (by omega)]
          exact Int.lt_trans (lt1 i a1) (hsp.1 (j - 1) (by omega) (by omega))
    · by_cases a2 : i = t
      · subst a2
        rw [insR_eq, insR_gt (by omega) (by omega)]
        exact hsp.1 (j - 1) (by omega) (by omega)
      · rw [insR_gt (by omega) (by omega), insR_gt (by omega) (by omega)]
        exact k3 (i - 1) (j - 1) (by omega) (by omega)
  · show prodZ (insR t σ.1.1.1 v σ.1.1.2.1) (σ.1.1.1 + 1) ≤ 1000
    rw [hpi]; omega
  · exact insR_all (fun x : Int => 0 ≤ x ∧ x ≤ 4) (by omega) (fun j hj => k5 j hj) hat hi
  · refine ⟨(k6 s hs).1, fun i hi => ?_⟩
    show -6 ≤ insR t 3 0 (σ.1.2.1.2 s) i ∧ insR t 3 0 (σ.1.2.1.2 s) i ≤ 6 ∧ (σ.1.1.1 + 1 ≤ i → insR t 3 0 (σ.1.2.1.2 s) i = 0)
    have k9 := (k6 s hs).2
    by_cases a1 : i < t
    · rw [insR_lt a1]; have := k9 i hi; exact ⟨this.1, this.2.1, fun h => this.2.2 (by omega)⟩
    · by_cases a2 : i = t
      · subst a2; rw [insR_eq]; exact ⟨by decide, by decide, fun _ => rfl⟩
      · rw [insR_gt (by omega) (by omega)]; have := k9 (i - 1) (by omega); exact ⟨this.1, this.2.1, fun h => this.2.2 (by omega)⟩
  · have h1 := okV_rm (n := σ.1.1.1) (p := σ.1.1.2.1) (k := σ.1.2.2.1) (q := σ.1.2.2.2) k7 v
    show okV (σ.1.1.1 + 1) (insR t σ.1.1.1 v σ.1.1.2.1) (rmS σ.1.2.2.1 σ.1.2.2.2 (fndZ σ.1.2.2.2 v σ.1.2.2.1 0))
    generalize rmS σ.1.2.2.1 σ.1.2.2.2 (fndZ σ.1.2.2.2 v σ.1.2.2.1 0) = z at h1
    refine ⟨h1.1.1, fun i hi => ?_, h1.1.2.2⟩
    have h2 := h1.1.2.1 i hi
    refine ⟨h2.1, h2.2.1, h2.2.2.1, fun j hj => ?_⟩
    exact insR_all (fun x => x ≠ z.2 i) (fun e => h1.2 i hi e.symm) (fun j hj => h2.2.2.2 j hj) hat hj
theorem k_drop (K : okS σ) (i : Int) : okS (opDrop σ i).2 := by
  unfold opDrop
  by_cases c1 : 0 ≤ i ∧ i < σ.1.1.1
  case neg => rw [if_neg c1]; exact K
  rw [if_pos c1]
  obtain ⟨a, rfl⟩ := Int.eq_ofNat_of_zero_le c1.1
  rw [Int.toNat_natCast]
  obtain ⟨⟨⟨k1, k2, k3, k4, k5⟩, k6, k7⟩, k8⟩ := K
  have ha : a < σ.1.1.1 := by omega
  have key : ∀ {f : Nat → Int} (P : Int → Prop), (∀ j, j < σ.1.1.1 → P (f j)) → ∀ j, j < σ.1.1.1 - 1 → P (rmR a (σ.1.1.1 - 1) f j) := by
    intro f P hf j hj
    by_cases c : j < a
    · rw [rmR_lt c]; exact hf j (by omega)
    · rw [rmR_ge (by omega) hj]; exact hf (j + 1) (by omega)
  refine ⟨⟨⟨by show σ.1.1.1 - 1 ≤ 4; omega, fun j hj => ?_, fun j m hij hj => ?_, ?_, fun j hj => ?_⟩, fun s hs => ?_, ?_⟩, k8⟩
  · exact key (fun x => isPr x = true ∧ 2 ≤ x ∧ x ≤ 31) k2 j hj
  · have hj : m < σ.1.1.1 - 1 := hj
    show rmR a (σ.1.1.1 - 1) σ.1.1.2.1 j < rmR a (σ.1.1.1 - 1) σ.1.1.2.1 m
    by_cases c1 : j < a
    · rw [rmR_lt c1]
      by_cases c2 : m < a
      · rw [rmR_lt c2]; exact k3 j m hij (by omega)
      · rw [rmR_ge (by omega) hj]; exact k3 j (m + 1) (by omega) (by omega)
    · rw [rmR_ge (by omega) (by omega), rmR_ge (by omega) hj]; exact k3 (j + 1) (m + 1) (by omega) (by omega)
  · show prodZ (rmR a (σ.1.1.1 - 1) σ.1.1.2.1) (σ.1.1.1 - 1) ≤ 1000
    have e := prodZ_rmR (p := σ.1.1.2.1) (a := a) (n := σ.1.1.1 - 1) (σ.1.1.1 - 1) (by omega) (Nat.le_refl _)
    rw [show σ.1.1.1 - 1 + 1 = σ.1.1.1 by omega] at e
    have h1 : 0 < prodZ (rmR a (σ.1.1.1 - 1) σ.1.1.2.1) (σ.1.1.1 - 1) := prodZ_pos _ (fun j hj => key (fun x => 0 < x) (fun m hm => by have := (k2 m hm).2.1; omega) j hj)
    have h2 := (k2 a ha).2.1
    have h3 : prodZ (rmR a (σ.1.1.1 - 1) σ.1.1.2.1) (σ.1.1.1 - 1) * 1 ≤ prodZ (rmR a (σ.1.1.1 - 1) σ.1.1.2.1) (σ.1.1.1 - 1) * σ.1.1.2.1 a := Int.mul_le_mul_of_nonneg_left (by omega) (by omega)
    omega
  · exact key (fun x : Int => 0 ≤ x ∧ x ≤ 4) k5 j hj
  · refine ⟨(k6 s hs).1, fun j hj => ?_⟩
    show -6 ≤ va_up (rmR a 3 (σ.1.2.1.2 s)) 3 0 j ∧ va_up (rmR a 3 (σ.1.2.1.2 s)) 3 0 j ≤ 6 ∧ (σ.1.1.1 - 1 ≤ j → va_up (rmR a 3 (σ.1.2.1.2 s)) 3 0 j = 0)
    have k9 := (k6 s hs).2
    unfold va_up
    by_cases c : j = 3
    · rw [if_pos c]; exact ⟨by decide, by decide, fun _ => rfl⟩
    · rw [if_neg c]
      by_cases c2 : j < a
      · rw [rmR_lt c2]; have := k9 j hj; exact ⟨this.1, this.2.1, fun h => by omega⟩
      · rw [rmR_ge (by omega) (by omega)]; have := k9 (j + 1) (by omega); exact ⟨this.1, this.2.1, fun h => this.2.2 (by omega)⟩
  · obtain ⟨m1, m2, m3⟩ := k7
    refine ⟨m1, fun j hj => ?_, m3⟩
    have h2 := m2 j hj
    exact ⟨h2.1, h2.2.1, h2.2.2.1, fun t ht => key (fun x => x ≠ σ.1.2.2.2 j) (fun m hm => h2.2.2.2 m hm) t ht⟩
theorem k_box (K : okS σ) (i b : Int) : okS (opBox σ i b).2 := by
  unfold opBox
  by_cases c1 : 0 ≤ i ∧ i < σ.1.1.1
  case neg => rw [if_neg c1]; exact K
  rw [if_pos c1]
  by_cases c2 : b < 0 ∨ 4 < b
  · rw [if_pos c2]; exact K
  rw [if_neg c2]
  obtain ⟨⟨⟨k1, k2, k3, k4, k5⟩, k6, k7⟩, k8⟩ := K
  refine ⟨⟨⟨k1, k2, k3, k4, fun j hj => ?_⟩, k6, k7⟩, k8⟩
  show 0 ≤ va_up σ.1.1.2.2 i.toNat b j ∧ va_up σ.1.1.2.2 i.toNat b j ≤ 4
  unfold va_up
  split
  · omega
  · exact k5 j hj
theorem k_put (K : okS σ) (s i x : Int) : okS (opPut σ s i x).2 := by
  unfold opPut
  by_cases c1 : (0 ≤ s ∧ s < 4) ∧ (0 ≤ i ∧ i < σ.1.1.1)
  case neg => rw [if_neg c1]; exact K
  rw [if_pos c1]
  by_cases c2 : x < -6 ∨ 6 < x
  · rw [if_pos c2]; exact K
  rw [if_neg c2]
  have k6 := K.1.2.1 s.toNat (by omega)
  refine okS_setSh K k6.1 (fun j hj => ?_)
  have := k6.2 j hj
  unfold va_up
  by_cases e : j = i.toNat
  · rw [if_pos e]; omega
  · rw [if_neg e]; exact this
theorem k_sign (K : okS σ) (s x : Int) : okS (opSign σ s x).2 := by
  unfold opSign
  by_cases c1 : 0 ≤ s ∧ s < 4
  case neg => rw [if_neg c1]; exact K
  rw [if_pos c1]
  by_cases c2 : ¬ x = 1 ∧ ¬ x = -1
  · rw [if_pos c2]; exact K
  rw [if_neg c2]
  exact okS_setSh K (by omega) (K.1.2.1 s.toNat (by omega)).2
theorem topZ_le {e : Nat → Int} {B : Int} : ∀ m, topZ e m ≤ B → ∀ i, i < m → ((e i).natAbs : Int) ≤ B
  | 0, _, i, hi => absurd hi (Nat.not_lt_zero i)
  | m + 1, h, i, hi => by
    unfold topZ at h
    by_cases c : i = m
    · subst c; omega
    · exact topZ_le m (by omega) i (by omega)
theorem k_join (K : okS σ) (a b to t : Int) : okS (opJoin σ a b to t).2 := by
  unfold opJoin
  by_cases c1 : (0 ≤ a ∧ a < 4) ∧ (0 ≤ b ∧ b < 4) ∧ (0 ≤ to ∧ to < 4)
  case neg => rw [if_neg c1]; exact K
  rw [if_pos c1]
  by_cases c2 : topZ (joinE σ a.toNat b.toNat t) 4 ≤ 6
  case neg => rw [if_neg c2]; exact K
  rw [if_pos c2]
  have ka := K.1.2.1 a.toNat (by omega)
  have kb := K.1.2.1 b.toNat (by omega)
  refine okS_setSh K ?_ (fun j hj => ?_)
  · rcases ka.1 with e1 | e1 <;> rcases kb.1 with e2 | e2 <;> rw [e1, e2] <;> decide
  · have h1 := topZ_le 4 c2 j hj
    refine ⟨by omega, by omega, fun h => ?_⟩
    unfold joinE
    rw [(ka.2 j hj).2.2 h, (kb.2 j hj).2.2 h, Int.mul_zero]; rfl
theorem k_fr (K : okS σ) (t : Nat) (x y : Int) : okS (setSh σ t (frS x) (frU σ.1.1.1 σ.1.1.2.1 x y)) := okS_setSh K (frS_1 x) (fun i _ => frU_b _ _ x y i)
theorem k_partner (K : okS σ) (s to : Int) : okS (opPartner σ s to).2 := by
  unfold opPartner
  split
  · split
    · exact k_fr K _ _ _
    · exact K
  · exact K
theorem k_form (K : okS σ) (s k to : Int) : okS (opForm σ s k to).2 := by
  unfold opForm
  split
  · split
    · split
      · exact k_fr K _ _ _
      · exact K
    · exact K
  · exact K
theorem k_take (T : TbZ) (K : okS σ) (i s : Int) : okS (opTake T σ i s).2 := by
  unfold opTake
  split
  · split
    · exact k_fr K _ _ _
    · exact K
  · exact K
theorem k_sieve (K : okS σ) (v : Int) : okS (opSieve σ v).2 := by
  unfold opSieve
  by_cases c : faultZ σ v = 1
  case neg => rw [if_neg c]; exact K
  rw [if_pos c]
  have hv := faultZ_1 c
  obtain ⟨⟨k1, k6, k7⟩, k8⟩ := K
  exact ⟨⟨k1, k6, okV_ask (n := σ.1.1.1) (p := σ.1.1.2.1) (k := σ.1.2.2.1) (q := σ.1.2.2.2) k7 hv.2.2.1 hv.1 hv.2.1 (fun j hj => (fndZ_none σ.1.1.1 0).mp hv.2.2.2 j (by omega) (by omega))⟩, k8⟩
theorem k_forget (K : okS σ) (v : Int) : okS (opForget σ v).2 := by
  unfold opForget
  split
  · exact K
  · obtain ⟨⟨k1, k6, k7⟩, k8⟩ := K
    exact ⟨⟨k1, k6, (okV_rm (n := σ.1.1.1) (p := σ.1.1.2.1) (k := σ.1.2.2.1) (q := σ.1.2.2.2) k7 v).1⟩, k8⟩
theorem k_tp0 (K : okS σ) (f : Nat → Int) : okS (setTp σ (0, f)) := ⟨K.1, K.2.1, ⟨by show 0 ≤ 60; decide, fun i hi => absurd hi (Nat.not_lt_zero i)⟩, K.2.2.2⟩
theorem k_feed (K : okS σ) (b : Int) : okS (opFeed σ b).2 := by
  unfold opFeed
  by_cases c : b < 32 ∨ 126 < b
  · rw [if_pos c]; exact K
  rw [if_neg c]
  by_cases c2 : σ.2.2.1.1 < 60
  case neg => rw [if_neg c2]; exact K
  rw [if_pos c2]
  refine ⟨K.1, K.2.1, ⟨by show σ.2.2.1.1 + 1 ≤ 60; omega, fun i hi => ?_⟩, K.2.2.2⟩
  have hi : i < σ.2.2.1.1 + 1 := hi
  show 32 ≤ va_up σ.2.2.1.2 σ.2.2.1.1 b i ∧ va_up σ.2.2.1.2 σ.2.2.1.1 b i ≤ 126
  unfold va_up
  by_cases e : i = σ.2.2.1.1
  · rw [if_pos e]; omega
  · rw [if_neg e]; exact K.2.2.1.2 i (by omega)
theorem k_wipe (K : okS σ) : okS (opWipe σ).2 := k_tp0 K _
theorem addE_zero {e : Nat → Int} {n i j : Nat} {x : Int} (h : ∀ i, n ≤ i → e i = 0) (hi : i < n) (hj : n ≤ j) : addE e i x j = 0 := by
  unfold addE va_up; rw [if_neg (by omega)]; exact h j hj
theorem starR_zero (t : Nat → Int) (p : Nat → Int) (n : Nat) : ∀ (c P : Nat) (e : Nat → Int), (∀ i, n ≤ i → e i = 0) → ∀ i, n ≤ i → (starR t p n c P e).2.2 i = 0
  | 0, P, e, h, i, hi => h i hi
  | c + 1, P, e, h, i, hi => by
    unfold starR
    split
    · split
      · next h2 => exact starR_zero t p n c _ _ (fun j hj => addE_zero h (facR_i t p n (P + 1) h2) hj) i hi
      · exact h i hi
    · exact h i hi
theorem bodyR_zero (t : Nat → Int) (p : Nat → Int) (n T c P i : Nat) (hi : n ≤ i) : (bodyR t p n T c P).2.2 i = 0 := by
  unfold bodyR
  split
  · rfl
  · split
    · next h2 => exact starR_zero t p n c _ _ (fun j hj => addE_zero (fun _ _ => rfl) (facR_i t p n P h2) hj) i hi
    · rfl
theorem rdS_1 (t : Nat → Int) : rdS t = 1 ∨ rdS t = -1 := by unfold rdS; split <;> simp
theorem k_read (K : okS σ) (s : Int) : okS (opRead σ s).2 := by
  unfold opRead
  by_cases c1 : 0 ≤ s ∧ s < 4
  case neg => rw [if_neg c1]; exact K
  rw [if_pos c1]
  by_cases c2 : (rdB σ).1 = true
  case neg => rw [if_neg c2]; exact k_tp0 K _
  rw [if_pos c2]
  by_cases c3 : topZ (rdB σ).2.2 4 ≤ 6
  case neg => rw [if_neg c3]; exact k_tp0 K _
  rw [if_pos c3]
  refine okS_setSh (k_tp0 K _) (rdS_1 _) (fun i hi => ?_)
  have := topZ_le 4 c3 i hi
  exact ⟨by omega, by omega, fun h => bodyR_zero _ _ _ _ _ _ i h⟩
theorem k_ls (K : okS σ) (j : Nat) (z : Int) (c : Nat → Int64) (z1 : -1 ≤ z) (z2 : z ≤ 20) : okS (setLs σ j z c) := by
  refine ⟨K.1, K.2.1, K.2.2.1, fun t ht => ?_⟩
  show -1 ≤ va_up σ.2.2.2.1 j z t ∧ va_up σ.2.2.2.1 j z t ≤ 20
  unfold va_up
  split
  · exact ⟨z1, z2⟩
  · exact K.2.2.2 t ht
theorem k_list (K : okS σ) (j n : Int) : okS (opList σ j n).2 := by
  unfold opList
  split
  · split
    · exact K
    · split
      · exact K
      · exact k_ls K _ _ _ (by omega) (by omega)
  · exact K
theorem k_lay (K : okS σ) (j i : Int) (v : Int64) : okS (opLay σ j i v).2 := by
  unfold opLay
  split
  · next h => 
    have := K.2.2.2 j.toNat (by omega)
    split
    · exact K
    · split
      · exact k_ls K _ _ _ this.1 this.2
      · exact K
  · exact K
theorem k_film (T : TbZ) (K : okS σ) (j i : Int) : okS (opFilm T σ j i).2 := by
  unfold opFilm
  split
  · exact k_ls K _ _ _ (by omega) (by omega)
  · exact K
theorem k_image (K : okS σ) : okS (opImage σ).2 := ⟨K.1, fun E hE => by cases hE; exact K.1, K.2.2⟩
theorem k_undo (K : okS σ) : okS (opUndo σ).2 := by
  unfold opUndo
  split
  · exact K
  · next E hE => exact ⟨K.2.1 E hE, K.2.1, K.2.2⟩
end sw_okk
