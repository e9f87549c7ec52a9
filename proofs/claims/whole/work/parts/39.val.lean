/-! PRODUCTS OF POWERS: what is taken out of them -/
def PZ (p : Nat → Int) (f : Nat → Nat) : Nat → Int
  | 0 => 1
  | i + 1 => PZ p f i * p i ^ f i
def TZ (p : Nat → Int) (f : Nat → Nat) : Nat → Nat → Int
  | 0, _ => 1
  | m + 1, i => p i ^ f i * TZ p f m (i + 1)
theorem PZ_TZ (p : Nat → Int) (f : Nat → Nat) : ∀ m i, PZ p f i * TZ p f m i = PZ p f (i + m)
  | 0, i => Int.mul_one _
  | m + 1, i => by
    show PZ p f i * (p i ^ f i * TZ p f m (i + 1)) = _
    rw [← Int.mul_assoc, show i + (m + 1) = i + 1 + m by omega, ← PZ_TZ p f m (i + 1)]; rfl
theorem TZ_0 (p : Nat → Int) (f : Nat → Nat) (n : Nat) : TZ p f n 0 = PZ p f n := by
  have := PZ_TZ p f n 0
  rw [show PZ p f 0 = 1 from rfl, Int.one_mul, Nat.zero_add] at this
  exact this
theorem side_PZ (p e : Nat → Int) (s : Int) : ∀ n, sideZ p e s n = PZ p (fun i => (s * e i).toNat) n
  | 0 => rfl
  | n + 1 => by unfold sideZ PZ; rw [side_PZ p e s n]
theorem PZ_congr {p : Nat → Int} {f g : Nat → Nat} : ∀ n, (∀ i, i < n → f i = g i) → PZ p f n = PZ p g n
  | 0, _ => rfl
  | n + 1, h => by unfold PZ; rw [PZ_congr n (fun i hi => h i (by omega)), h n (by omega)]
theorem PZ_pos {p : Nat → Int} {f : Nat → Nat} : ∀ n, (∀ i, i < n → 2 ≤ p i) → 0 < PZ p f n
  | 0, _ => by show (0 : Int) < 1; decide
  | n + 1, hp => Int.mul_pos (PZ_pos n (fun i hi => hp i (by omega))) (Int.pow_pos (by have := hp n (by omega); omega))
/-- coprime to each other -/
def cpZ (a b : Int) : Prop := Nat.Coprime a.natAbs b.natAbs
theorem cpZ_symm {a b : Int} (h : cpZ a b) : cpZ b a := Nat.Coprime.symm h
theorem cpZ_mul {a b c : Int} (h1 : cpZ a b) (h2 : cpZ a c) : cpZ a (b * c) := by
  unfold cpZ; rw [Int.natAbs_mul]; exact Nat.Coprime.mul_right h1 h2
theorem cpZ_pow {a b : Int} (h : cpZ a b) (k : Nat) : cpZ a (b ^ k) := by
  unfold cpZ; rw [Int.natAbs_pow]; exact Nat.Coprime.pow_right k h
theorem cpZ_one (a : Int) : cpZ a 1 := Nat.coprime_one_right _
theorem cpZ_no {a b : Int} (h : cpZ a b) (ha : 2 ≤ a) : ¬ b % a = 0 := by
  intro e
  have h1 : a ∣ b := Int.dvd_of_emod_eq_zero e
  have h2 : a.natAbs ∣ b.natAbs := Int.natAbs_dvd_natAbs.mpr h1
  have h3 := Nat.Coprime.eq_one_of_dvd h h2
  omega
def copP (n : Nat) (p : Nat → Int) : Prop := (∀ i, i < n → 2 ≤ p i) ∧ ∀ i j, i < n → j < n → i ≠ j → cpZ (p i) (p j)
theorem pr_cop : ∀ a ∈ primesL, ∀ b ∈ primesL, a ≠ b → Nat.Coprime a.natAbs b.natAbs := by decide +kernel
theorem isPr_mem {v : Int} (h : isPr v = true) : v ∈ primesL := by
  unfold isPr at h; exact List.contains_iff_mem.mp h
theorem copP_of {n : Nat} {p bx : Nat → Int} (h : okB n p bx) : copP n p := by
  obtain ⟨h1, h2, h3, h4, h5⟩ := h
  refine ⟨fun i hi => (h2 i hi).2.1, fun i j hi hj hij => ?_⟩
  refine pr_cop _ (isPr_mem (h2 i hi).1) _ (isPr_mem (h2 j hj).1) (fun e => ?_)
  rcases Nat.lt_or_gt_of_ne hij with g | g
  · have := h3 i j g hj; omega
  · have := h3 j i g hi; omega
theorem cp_TZ {p : Nat → Int} {f : Nat → Nat} {q : Int} : ∀ m i, (∀ j, i ≤ j → j < i + m → f j = 0 ∨ cpZ q (p j)) → cpZ q (TZ p f m i)
  | 0, i, _ => cpZ_one q
  | m + 1, i, h => by
    unfold TZ
    refine cpZ_mul ?_ (cp_TZ m (i + 1) (fun j h1 h2 => h j (by omega) (by omega)))
    rcases h i (by omega) (by omega) with e | e
    · rw [e, Int.pow_zero]; exact cpZ_one q
    · exact cpZ_pow e _
theorem cp_PZ {p : Nat → Int} {f : Nat → Nat} {q : Int} (n : Nat) (h : ∀ j, j < n → f j = 0 ∨ cpZ q (p j)) : cpZ q (PZ p f n) := by
  rw [← TZ_0]; exact cp_TZ n 0 (fun j _ h2 => h j (by omega))
/-- q taken out of q to the f times t -/
theorem cnt_pow {q t : Int} (hq : 2 ≤ q) (ht : ¬ t % q = 0) : ∀ (f m : Nat), f ≤ m → cntUp q m (q ^ f * t) = f ∧ divUp q m (q ^ f * t) = t
  | 0, 0, _ => ⟨rfl, by rw [Int.pow_zero, Int.one_mul]; rfl⟩
  | 0, m + 1, _ => by
    rw [Int.pow_zero, Int.one_mul]
    unfold cntUp divUp
    rw [if_neg ht, if_neg ht]; exact ⟨rfl, rfl⟩
  | f + 1, m + 1, h => by
    have e1 : q ^ (f + 1) * t = q * (q ^ f * t) := by rw [Int.pow_succ, Int.mul_comm (q ^ f) q, Int.mul_assoc]
    have e2 : q ^ (f + 1) * t % q = 0 := by rw [e1]; exact Int.mul_emod_right q _
    have e3 : q ^ (f + 1) * t / q = q ^ f * t := by rw [e1]; exact Int.mul_ediv_cancel_left _ (by omega)
    have ih := cnt_pow hq ht f m (by omega)
    unfold cntUp divUp
    rw [if_pos e2, if_pos e2, e3, ih.1, ih.2]; exact ⟨rfl, rfl⟩
theorem cnt_back (q : Int) : ∀ (m : Nat) (r : Int), q ^ cntUp q m r * divUp q m r = r
  | 0, r => by unfold cntUp divUp; rw [Int.pow_zero, Int.one_mul]
  | m + 1, r => by
    unfold cntUp divUp
    by_cases e : r % q = 0
    · rw [if_pos e, if_pos e, Int.pow_succ, Int.mul_comm (q ^ _) q, Int.mul_assoc, cnt_back q m (r / q)]
      exact Int.mul_ediv_cancel' (Int.dvd_of_emod_eq_zero e)
    · rw [if_neg e, if_neg e, Int.pow_zero, Int.one_mul]
/-- what is left behind the first i, each taken out m times at most -/
def rc (m : Nat) (p : Nat → Int) : Nat → Int → Int
  | 0, r => r
  | i + 1, r => divUp (p i) m (rc m p i r)
def cn (m : Nat) (p : Nat → Int) (r : Int) (i : Nat) : Nat := cntUp (p i) m (rc m p i r)
theorem rest_rc (p : Nat → Int) (r : Int) : ∀ n, restZ p n r = rc 6 p n r
  | 0 => rfl
  | n + 1 => by unfold restZ rc; rw [rest_rc p r n]
theorem rc_back (m : Nat) (p : Nat → Int) (r : Int) : ∀ i, PZ p (cn m p r) i * rc m p i r = r
  | 0 => Int.one_mul r
  | i + 1 => by
    unfold PZ rc
    rw [Int.mul_assoc]
    show PZ p (cn m p r) i * (p i ^ cntUp (p i) m (rc m p i r) * divUp (p i) m (rc m p i r)) = r
    rw [cnt_back, rc_back m p r i]
theorem rc_out {m n : Nat} {p : Nat → Int} {f : Nat → Nat} (hp : copP n p) (hf : ∀ i, i < n → f i ≤ m) : ∀ i, i ≤ n → rc m p i (PZ p f n) = TZ p f (n - i) i
  | 0, _ => by rw [show n - 0 = n by omega, TZ_0]; rfl
  | i + 1, h => by
    unfold rc
    rw [rc_out hp hf i (by omega), show n - i = n - (i + 1) + 1 by omega]
    show divUp (p i) m (p i ^ f i * TZ p f (n - (i + 1)) (i + 1)) = _
    exact (cnt_pow (hp.1 i (by omega)) (cpZ_no (cp_TZ _ _ (fun j h1 h2 => Or.inr (hp.2 i j (by omega) (by omega) (by omega)))) (hp.1 i (by omega))) (f i) m (hf i (by omega))).2
theorem cn_out {m n : Nat} {p : Nat → Int} {f : Nat → Nat} (hp : copP n p) (hf : ∀ i, i < n → f i ≤ m) {i : Nat} (hi : i < n) : cn m p (PZ p f n) i = f i := by
  unfold cn
  rw [rc_out hp hf i (by omega), show n - i = n - (i + 1) + 1 by omega]
  exact (cnt_pow (hp.1 i hi) (cpZ_no (cp_TZ _ _ (fun j h1 h2 => Or.inr (hp.2 i j (by omega) (by omega) (by omega)))) (hp.1 i hi)) (f i) m (hf i hi)).1
theorem cn_le (m : Nat) (p : Nat → Int) (r : Int) (i : Nat) : cn m p r i ≤ m := cntUp_le _ _ _
/-- all is taken out: a product of powers -/
theorem rc_one {m n : Nat} {p : Nat → Int} {r : Int} (hp : copP n p) : rc m p n r = 1 ↔ ∃ f : Nat → Nat, (∀ i, i < n → f i ≤ m) ∧ r = PZ p f n := by
  refine ⟨fun h => ⟨cn m p r, fun i _ => cn_le m p r i, ?_⟩, fun ⟨f, hf, e⟩ => ?_⟩
  · have := rc_back m p r n
    rw [h, Int.mul_one] at this
    exact this.symm
  · rw [e, rc_out hp hf n (Nat.le_refl _), Nat.sub_self]; rfl
theorem PZ_inj {n : Nat} {p : Nat → Int} {f g : Nat → Nat} (hp : copP n p) (h : PZ p f n = PZ p g n) : ∀ i, i < n → f i = g i := by
  intro i hi
  have key : ∀ (k : Nat), ∃ m, (∀ j, j < k → f j ≤ m) ∧ ∀ j, j < k → g j ≤ m := by
    intro k
    induction k with
    | zero => exact ⟨0, fun j hj => absurd hj (Nat.not_lt_zero j), fun j hj => absurd hj (Nat.not_lt_zero j)⟩
    | succ k ih =>
      obtain ⟨m, h1, h2⟩ := ih
      refine ⟨m + f k + g k, fun j hj => ?_, fun j hj => ?_⟩
      · by_cases e : j = k
        · subst e; omega
        · have := h1 j (by omega); omega
      · by_cases e : j = k
        · subst e; omega
        · have := h2 j (by omega); omega
  obtain ⟨m, h1, h2⟩ := key n
  rw [← cn_out hp h1 hi, h, cn_out hp h2 hi]
theorem PZ_mod {n : Nat} {p : Nat → Int} {f : Nat → Nat} : ∀ {i : Nat}, i < n → 0 < f i → PZ p f n % p i = 0 := by
  induction n with
  | zero => intro i hi; exact absurd hi (Nat.not_lt_zero i)
  | succ n ih =>
    intro i hi hf
    show PZ p f n * p n ^ f n % p i = 0
    by_cases e : i = n
    · subst e
      obtain ⟨k, hk⟩ : ∃ k, f i = k + 1 := ⟨f i - 1, by omega⟩
      rw [hk, Int.pow_succ, ← Int.mul_assoc]
      exact Int.mul_emod_left _ _
    · rw [Int.mul_emod, ih (show i < n by omega) hf, Int.zero_mul, Int.zero_emod]
