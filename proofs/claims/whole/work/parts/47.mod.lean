/-! MODULO q: powers of any sign, inverses; what is reached -/
theorem mm_l (a b q : Int) : a % q * b % q = a * b % q := by rw [Int.mul_emod, Int.emod_emod, ← Int.mul_emod]
theorem mm_r (a b q : Int) : a * (b % q) % q = a * b % q := by rw [Int.mul_comm, mm_l, Int.mul_comm]
theorem ferm : ∀ q ∈ primesL, ∀ p ∈ primesL, 3 ≤ q → p ≤ 31 → p ≠ q → powM q p (q.toNat - 1) = 1 := by decide +kernel
/-- p to the e, modulo q -/
def pwM (q : Nat) (p e : Int) : Int := powM q p (e % (q - 1 : Nat)).toNat
theorem pwM_0 {q : Nat} {p : Int} : pwM q p 0 = 1 := by unfold pwM; rw [Int.zero_emod]; rfl
theorem pwM_b {q : Nat} {p e : Int} (hq : 2 ≤ q) : 0 ≤ pwM q p e ∧ pwM q p e < q := powM_b (by omega) _
theorem pwM_up {q : Nat} {p : Int} (hq : 3 ≤ q) (hf : powM q p (q - 1) = 1) (e : Int) : pwM q p (e + 1) = pwM q p e * p % q := by
  unfold pwM
  have r0 : 0 ≤ e % (q - 1 : Nat) := Int.emod_nonneg _ (by omega)
  have r1 : e % (q - 1 : Nat) < (q - 1 : Nat) := Int.emod_lt_of_pos _ (by omega)
  have h1 : (e + 1) % (q - 1 : Nat) = (e % (q - 1 : Nat) + 1) % (q - 1 : Nat) := (Int.emod_add_emod e (q - 1 : Nat) 1).symm
  rw [h1]
  generalize e % (q - 1 : Nat) = r at r0 r1 h1
  by_cases c : r + 1 = (q - 1 : Nat)
  · rw [c, Int.emod_self]
    have h2 : powM q p (q - 1) = powM q p r.toNat * p % q := by
      rw [show q - 1 = r.toNat + 1 by omega]; rfl
    rw [← h2, hf]; rfl
  · rw [Int.emod_eq_of_lt (by omega) (by omega), show (r + 1).toNat = r.toNat + 1 by omega]; rfl
theorem pwM_dn {q : Nat} {p w : Int} (hq : 3 ≤ q) (hf : powM q p (q - 1) = 1) (hw : w * p % q = 1) (e : Int) : pwM q p e = pwM q p (e + 1) * w % q := by
  rw [pwM_up hq hf, mm_l, Int.mul_assoc, Int.mul_comm p w, ← mm_r, hw, Int.mul_one, Int.emod_eq_of_lt (pwM_b (by omega)).1 (pwM_b (by omega)).2]
/-- v times b, k times over -/
def itM (q b : Int) : Nat → Int → Int
  | 0, v => v
  | k + 1, v => itM q b k (v * b % q)
theorem itM_b {q b : Int} (hq : 0 < q) : ∀ (k : Nat) (v : Int), 0 ≤ v → v < q → 0 ≤ itM q b k v ∧ itM q b k v < q
  | 0, v, h1, h2 => ⟨h1, h2⟩
  | k + 1, v, _, _ => itM_b hq k _ (Int.emod_nonneg _ (by omega)) (Int.emod_lt_of_pos _ hq)
theorem itM_pos {q : Nat} {p : Int} (hq : 3 ≤ q) (hf : powM q p (q - 1) = 1) : ∀ (k : Nat) (e v : Int), itM q (p % q) k (v * pwM q p e % q) = v * pwM q p (e + k) % q
  | 0, e, v => by show v * pwM q p e % q = _; rw [show e + ((0 : Nat) : Int) = e by omega]
  | k + 1, e, v => by
    have h1 : v * pwM q p e % q * (p % q) % q = v * pwM q p (e + 1) % q := by rw [mm_l, mm_r, Int.mul_assoc, ← mm_r v, ← pwM_up hq hf]
    show itM q (p % q) k (v * pwM q p e % q * (p % q) % q) = _
    rw [h1, itM_pos hq hf k (e + 1) v, show e + 1 + (k : Int) = e + ((k + 1 : Nat) : Int) by omega]
theorem itM_neg {q : Nat} {p w : Int} (hq : 3 ≤ q) (hf : powM q p (q - 1) = 1) (hw : w * p % q = 1) : ∀ (k : Nat) (e v : Int), itM q w k (v * pwM q p e % q) = v * pwM q p (e - k) % q
  | 0, e, v => by show v * pwM q p e % q = _; rw [show e - ((0 : Nat) : Int) = e by omega]
  | k + 1, e, v => by
    have h1 : v * pwM q p e % q * w % q = v * pwM q p (e - 1) % q := by
      have h2 := pwM_dn hq hf hw (e - 1)
      rw [show e - 1 + 1 = e by omega] at h2
      rw [mm_l, Int.mul_assoc, ← mm_r v, ← h2]
    show itM q w k (v * pwM q p e % q * w % q) = _
    rw [h1, itM_neg hq hf hw k (e - 1) v, show e - 1 - (k : Int) = e - ((k + 1 : Nat) : Int) by omega]
theorem itM_at {q : Nat} {p w e v : Int} (hq : 3 ≤ q) (hf : powM q p (q - 1) = 1) (hw : w * p % q = 1) (v0 : 0 ≤ v) (v1 : v < q) : itM q (if e < 0 then w else p % q) e.natAbs v = v * pwM q p e % q := by
  have ev : v = v * pwM q p 0 % q := by rw [pwM_0, Int.mul_one, Int.emod_eq_of_lt v0 v1]
  by_cases c : e < 0
  · rw [if_pos c]
    have := itM_neg hq hf hw e.natAbs 0 v
    rw [← ev, show (0 : Int) - e.natAbs = e by omega] at this; exact this
  · rw [if_neg c]
    have := itM_pos (p := p) hq hf e.natAbs 0 v
    rw [← ev, show (0 : Int) + e.natAbs = e by omega] at this; exact this
theorem resM_pw {q : Nat} {sg : Int} {p e : Nat → Int} {i : Nat} : resM q sg p e (i + 1) = resM q sg p e i * pwM q (p i) (e i) % q := rfl
theorem inv_ex {q : Nat} {p : Int} (hq : 3 ≤ q) (hf : powM q p (q - 1) = 1) : ∃ w : Nat, 1 ≤ w ∧ w < q ∧ (w : Int) * p % q = 1 := by
  have hb := powM_b (q := q) (p := p) (by omega) (q - 2)
  have h2 : powM q p (q - 1) = powM q p (q - 2) * p % q := by rw [show q - 1 = (q - 2) + 1 by omega]; rfl
  refine ⟨(powM q p (q - 2)).toNat, ?_, by omega, ?_⟩
  · rcases Nat.eq_zero_or_pos (powM q p (q - 2)).toNat with c | c
    · have c2 : powM q p (q - 2) = 0 := by omega
      rw [c2, Int.zero_mul, Int.zero_emod, hf] at h2
      exact absurd h2 (by decide)
    · omega
  · rw [show (((powM q p (q - 2)).toNat : Nat) : Int) = powM q p (q - 2) by omega, ← h2, hf]
theorem ordG_ok {q : Nat} {p : Int} (hf : powM q p (q - 1) = 1) : ∀ c k : Nat, k + c + 1 = q → 1 ≤ ordG q p (c + 1) k (powM q p k) ∨ k = 0
  | 0, k, h => by
    have e : ordG q p 1 k (powM q p k) = if powM q p k = 1 then (k : Int) else ordG q p 0 (k + 1) (powM q p k * p % q) := rfl
    rw [e, if_pos (by rw [show k = q - 1 by omega]; exact hf)]; omega
  | c + 1, k, h => by
    have e : ordG q p (c + 1 + 1) k (powM q p k) = if powM q p k = 1 then (k : Int) else ordG q p (c + 1) (k + 1) (powM q p (k + 1)) := rfl
    rw [e]
    split
    · omega
    · rcases ordG_ok hf c (k + 1) (by omega) with g | g
      · exact Or.inl g
      · omega
/-- a sieve beside the primes -/
def okQ (n : Nat) (p : Nat → Int) (q : Nat) : Prop := 3 ≤ q ∧ q ≤ 97 ∧ isPr q = true ∧ ∀ i, i < n → isPr (p i) = true ∧ 2 ≤ p i ∧ p i ≤ 31 ∧ p i ≠ q
theorem okQ_f {n : Nat} {p : Nat → Int} {q : Nat} (O : okQ n p q) {i : Nat} (hi : i < n) : powM q (p i) (q - 1) = 1 := by
  obtain ⟨o1, o2, o3, o4⟩ := O
  have h := o4 i hi
  have := ferm q (isPr_mem o3) (p i) (isPr_mem h.1) (by omega) h.2.2.1 h.2.2.2
  rw [Int.toNat_natCast] at this; exact this
theorem cntB_sub {m0 m : Nat → Bool} : ∀ q, (∀ r, r < q → m0 r = true → m r = true) → cntB m0 q ≤ cntB m q ∧ (cntB m q = cntB m0 q → ∀ r, r < q → m r = m0 r)
  | 0, _ => ⟨Nat.le_refl _, fun _ r hr => absurd hr (Nat.not_lt_zero r)⟩
  | q + 1, h => by
    have ih := cntB_sub q (fun r hr => h r (by omega))
    have hq := h q (by omega)
    have e1 : cntB m0 (q + 1) = cntB m0 q + if m0 q then 1 else 0 := rfl
    have e2 : cntB m (q + 1) = cntB m q + if m q then 1 else 0 := rfl
    rw [e1, e2]
    cases c0 : m0 q with
    | true =>
      rw [hq c0]
      refine ⟨by simp; exact ih.1, fun e r hr => ?_⟩
      by_cases c : r = q
      · rw [c, hq c0, c0]
      · exact ih.2 (by simp at e; exact e) r (by omega)
    | false =>
      cases c1 : m q with
      | true => refine ⟨by simp; omega, fun e => ?_⟩; simp at e; omega
      | false =>
        refine ⟨by simp; exact ih.1, fun e r hr => ?_⟩
        by_cases c : r = q
        · rw [c, c0, c1]
        · exact ih.2 (by simp at e; exact e) r (by omega)
theorem cntB_no : ∀ q, cntB (fun _ => false) q = 0
  | 0 => rfl
  | q + 1 => by unfold cntB; rw [cntB_no q]; rfl
def iniM (q : Nat) (r : Nat) : Bool := decide (r = 1 ∨ r = q - 1)
theorem iniM_2 {q : Nat} (hq : 3 ≤ q) : cntB (iniM q) q = 2 := by
  have e : iniM q = va_up (va_up (fun _ => false) 1 true) (q - 1) true := by
    funext r
    unfold iniM va_up
    by_cases c1 : r = q - 1
    · rw [if_pos c1, decide_eq_true (Or.inr c1)]
    · rw [if_neg c1]
      by_cases c2 : r = 1
      · rw [if_pos c2, decide_eq_true (Or.inl c2)]
      · rw [if_neg c2, decide_eq_false (by omega)]
  rw [e, cntB_up _ _ (by unfold va_up; rw [if_neg (by omega)]), cntB_up _ _ rfl, cntB_no, if_pos (by omega), if_pos (by omega)]
/-- nothing is missing -/
def clsM (q n : Nat) (p : Nat → Int) (m : Nat → Bool) : Prop := ∀ v : Nat, 1 ≤ v → v < q → m v = true → ∀ i, i < n → m ((v : Int) * p i % q).toNat = true
theorem no_zero {q v : Nat} {a : Int} (hc : cpZ q a) (hq : 2 ≤ q) (h1 : 1 ≤ v) (h2 : v < q) : ¬ (v : Int) * a % q = 0 := by
  intro e
  have d1 : (q : Int) ∣ (v : Int) * a := Int.dvd_of_emod_eq_zero e
  have d2 : q ∣ v * a.natAbs := by
    have := Int.natAbs_dvd_natAbs.mpr d1
    rw [Int.natAbs_mul] at this; exact this
  have hc' : Nat.Coprime q a.natAbs := hc
  have d3 : q ∣ v := hc'.dvd_of_dvd_mul_right d2
  have := Nat.le_of_dvd (by omega) d3
  omega
theorem okQ_cp {n : Nat} {p : Nat → Int} {q : Nat} (O : okQ n p q) {i : Nat} (hi : i < n) : cpZ q (p i) := by
  have h := O.2.2.2 i hi
  exact pr_cop q (isPr_mem O.2.2.1) (p i) (isPr_mem h.1) (fun e => h.2.2.2 e.symm)
theorem neg_mod {q s : Nat} {a : Int} (hs : s ≤ q) (h0 : ¬ (s : Int) * a % q = 0) (hq : 2 ≤ q) : ((q - s : Nat) : Int) * a % q = q - (s : Int) * a % q := by
  have r1 : 0 ≤ (s : Int) * a % q := Int.emod_nonneg _ (by omega)
  have r2 : (s : Int) * a % q < q := Int.emod_lt_of_pos _ (by omega)
  have e1 : ((q - s : Nat) : Int) * a = ((q : Int) - (s : Int) * a % q) + q * (a - 1 - (s : Int) * a / q) := by
    have h1 := Int.emod_add_mul_ediv ((s : Int) * a) q
    rw [show ((q - s : Nat) : Int) = (q : Int) - s by omega, Int.sub_mul, Int.mul_sub, Int.mul_sub]
    generalize (s : Int) * a % q = r at h1
    generalize (s : Int) * a = y at h1
    generalize (q : Int) * (y / q) = z at h1
    omega
  rw [e1, Int.add_mul_emod_self_left, Int.emod_eq_of_lt (by omega) (by omega)]
theorem reach_cls {q n : Nat} {p : Nat → Int} {m : Nat → Bool} (O : okQ n p q) (m1 : m 1 = true) (m2 : m (q - 1) = true) (hc : clsM q n p m) (hr : ∀ r, r < q → m r = true → ReachZ q n p r) : ∀ r, r < q → m r = mkM q n p r := by
  have o1 := O.1
  have key := reach_min (q := q) (n := n) (p := p) (fun r => 1 ≤ r ∧ r < q ∧ m r = true ∧ m (q - r) = true) ⟨by omega, by omega, m1, m2⟩ (fun r s hs hr e => ⟨by omega, hr, by rw [show r = q - s by omega]; exact hs.2.2.2, by rw [show q - r = s by omega]; exact hs.2.2.1⟩) (fun r s i hs hr hi e => by
    have nz := no_zero (okQ_cp O hi) (by omega) hs.1 hs.2.1
    have h1 := hc s hs.1 hs.2.1 hs.2.2.1 i hi
    have h2 := hc (q - s) (by omega) (by omega) hs.2.2.2 i hi
    rw [neg_mod (by omega) nz (by omega), ← e] at h2
    rw [← e] at h1 nz
    rw [Int.toNat_natCast] at h1
    rw [show ((q : Int) - (r : Int)).toNat = q - r by omega] at h2
    exact ⟨by omega, hr, h1, h2⟩)
  intro r hq
  cases c : m r with
  | true => rw [mkM_iff.mpr (hr r hq c)]
  | false =>
    cases c2 : mkM q n p r with
    | false => rfl
    | true => rw [(key r (mkM_iff.mp c2)).2.2.1] at c; cases c
