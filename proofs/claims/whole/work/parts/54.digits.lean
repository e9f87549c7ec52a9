/-! THE UNITS OF THE BOX: by a number, the first prime's power the fastest, the sign faster still -/
def dxU (bx : Nat → Int) (i : Nat) : Nat := (2 * bx i + 1).toNat
def rdx (bx : Nat → Int) : Nat → Nat
  | 0 => 1
  | i + 1 => rdx bx i * dxU bx i
def dgE (bx : Nat → Int) (v : Nat) (i : Nat) : Int := ((v / rdx bx i % dxU bx i : Nat) : Int) - bx i
def sgU (u : Nat) : Int := if u % 2 = 0 then 1 else -1
theorem sgU_1 (u : Nat) : sgU u = 1 ∨ sgU u = -1 := by unfold sgU; split <;> simp
section sw_dig
variable {n : Nat} {bx : Nat → Int}
theorem dxU_pos {i : Nat} (h : 0 ≤ bx i) : 0 < dxU bx i := by unfold dxU; omega
theorem rdx_pos (hb : ∀ i, i < n → 0 ≤ bx i) : ∀ i, i ≤ n → 0 < rdx bx i
  | 0, _ => Nat.one_pos
  | i + 1, h => Nat.mul_pos (rdx_pos hb i (by omega)) (dxU_pos (hb i (by omega)))
theorem dg_b {i : Nat} (h : 0 ≤ bx i) (v : Nat) : -bx i ≤ dgE bx v i ∧ dgE bx v i ≤ bx i := by
  have h1 := Nat.mod_lt (v / rdx bx i) (dxU_pos h)
  unfold dgE
  unfold dxU at h1 ⊢
  omega
theorem dg_max (hb : ∀ i, i < n → 0 ≤ bx i) (v : Nat) : ∀ i, i ≤ n → ((∀ j, j < i → dgE bx v j = bx j) ↔ v % rdx bx i = rdx bx i - 1)
  | 0, _ => ⟨fun _ => by show v % 1 = 1 - 1; omega, fun _ j hj => absurd hj (Nat.not_lt_zero j)⟩
  | i + 1, h => by
    have ih := dg_max hb v i (by omega)
    have r := rdx_pos hb i (by omega)
    have d := dxU_pos (hb i (by omega))
    have m1 := Nat.mod_lt v r
    have m2 := Nat.mod_lt (v / rdx bx i) d
    have e : v % rdx bx (i + 1) = v % rdx bx i + rdx bx i * (v / rdx bx i % dxU bx i) := Nat.mod_mul
    have e2 : rdx bx (i + 1) = rdx bx i * (dxU bx i - 1) + rdx bx i := by
      show rdx bx i * dxU bx i = _
      rw [← Nat.mul_succ]; congr 1; omega
    have k : dgE bx v i = bx i ↔ v / rdx bx i % dxU bx i = dxU bx i - 1 := by
      have := hb i (by omega)
      unfold dgE
      unfold dxU at m2 ⊢
      omega
    rw [e, e2]
    refine ⟨fun H => ?_, fun H => ?_⟩
    · rw [ih.mp (fun j hj => H j (by omega)), k.mp (H i (by omega))]
      omega
    · have q : v / rdx bx i % dxU bx i = dxU bx i - 1 := by
        rcases Nat.lt_or_ge (v / rdx bx i % dxU bx i) (dxU bx i - 1) with c | c
        · have : rdx bx i * (v / rdx bx i % dxU bx i) + rdx bx i ≤ rdx bx i * (dxU bx i - 1) := by
            rw [← Nat.mul_succ]; exact Nat.mul_le_mul_left _ c
          omega
        · omega
      have q2 : v % rdx bx i = rdx bx i - 1 := by rw [q] at H; omega
      intro j hj
      by_cases ej : j = i
      · subst ej; exact k.mpr q
      · exact ih.mpr q2 j (by omega)
theorem rdx_dvd : ∀ {i m : Nat}, i ≤ m → rdx bx i ∣ rdx bx m := by
  intro i m
  induction m with
  | zero => intro h; have : i = 0 := by omega
            subst this; exact Nat.dvd_refl _
  | succ m ih =>
    intro h
    by_cases e : i = m + 1
    · subst e; exact Nat.dvd_refl _
    · exact Nat.dvd_trans (ih (by omega)) (Nat.dvd_mul_right _ _)
theorem dg_zero {v i : Nat} (h : rdx bx (i + 1) ∣ v) (hr : 0 < rdx bx i) : dgE bx v i = -bx i := by
  obtain ⟨k, rfl⟩ := h
  unfold dgE
  rw [show rdx bx (i + 1) * k = rdx bx i * (dxU bx i * k) by rw [show rdx bx (i + 1) = rdx bx i * dxU bx i from rfl, Nat.mul_assoc], Nat.mul_div_cancel_left _ hr, Nat.mul_mod_right]
  omega
theorem dg_first {i : Nat} : dgE bx 0 i = -bx i := by unfold dgE; rw [Nat.zero_div, Nat.zero_mod]; omega
theorem dg_end (hb : ∀ i, i < n → 0 ≤ bx i) {i : Nat} (hi : i < n) : dgE bx (rdx bx n) i = -bx i := dg_zero (rdx_dvd (by omega)) (rdx_pos hb i (by omega))
theorem succ_div {v r : Nat} (hr : 0 < r) : (v % r = r - 1 → (v + 1) / r = v / r + 1 ∧ r ∣ v + 1) ∧ (¬ v % r = r - 1 → (v + 1) / r = v / r) := by
  have h := Nat.div_add_mod v r
  have h2 := Nat.mod_lt v hr
  refine ⟨fun e => ?_, fun e => ?_⟩
  · have e9 : v + 1 = r * (v / r + 1) := by rw [Nat.mul_succ]; omega
    refine ⟨?_, ⟨_, e9⟩⟩
    rw [e9, Nat.mul_div_cancel_left _ hr]
  · have e9 : v + 1 = r * (v / r) + (v % r + 1) := by omega
    rw [e9, Nat.mul_add_div hr, Nat.div_eq_of_lt (by omega : v % r + 1 < r)]
    rfl
/-- one on -/
theorem dg_step (hb : ∀ i, i < n → 0 ≤ bx i) {v i : Nat} (hi : i < n) (hM : ∀ j, j < i → dgE bx v j = bx j) (h : dgE bx v i < bx i) : (∀ j, j < i → dgE bx (v + 1) j = -bx j) ∧ dgE bx (v + 1) i = dgE bx v i + 1 ∧ ∀ j, i < j → j < n → dgE bx (v + 1) j = dgE bx v j := by
  refine ⟨fun j hj => ?_, ?_, fun j h1 h2 => ?_⟩
  · have m := (dg_max hb v (j + 1) (by omega)).mp (fun k hk => hM k (by omega))
    exact dg_zero ((succ_div (rdx_pos hb (j + 1) (by omega))).1 m).2 (rdx_pos hb j (by omega))
  · have m := (dg_max hb v i (by omega)).mp hM
    have d := dxU_pos (hb i hi)
    have b := hb i hi
    unfold dgE at h ⊢
    rw [((succ_div (rdx_pos hb i (by omega))).1 m).1]
    have q : (v / rdx bx i + 1) % dxU bx i = v / rdx bx i % dxU bx i + 1 := by
      have m2 := Nat.mod_lt (v / rdx bx i) d
      have := Nat.div_add_mod (v / rdx bx i) (dxU bx i)
      have e9 : v / rdx bx i + 1 = dxU bx i * (v / rdx bx i / dxU bx i) + (v / rdx bx i % dxU bx i + 1) := by omega
      rw [e9, Nat.mul_add_mod]
      refine Nat.mod_eq_of_lt ?_
      unfold dxU at h ⊢
      omega
    rw [q]
    omega
  · have m : ¬ v % rdx bx j = rdx bx j - 1 := fun q => by
      have := (dg_max hb v j (by omega)).mpr q i h1
      omega
    unfold dgE
    rw [(succ_div (rdx_pos hb j (by omega))).2 m]
theorem dg_last (hb : ∀ i, i < n → 0 ≤ bx i) {v : Nat} (hv : v < rdx bx n) (hM : ∀ j, j < n → dgE bx v j = bx j) : v + 1 = rdx bx n := by
  have m := (dg_max hb v n (Nat.le_refl _)).mp hM
  rw [Nat.mod_eq_of_lt hv] at m
  omega
theorem dg_not_last (hb : ∀ i, i < n → 0 ≤ bx i) {v i : Nat} (hv : v < rdx bx n) (hi : i < n) (h : dgE bx v i < bx i) : v + 1 < rdx bx n := by
  refine Nat.lt_of_le_of_ne (by omega) fun e => ?_
  have m := (dg_max hb v n (Nat.le_refl _)).mpr (by rw [Nat.mod_eq_of_lt hv]; omega) i hi
  omega
theorem dg_inj (hb : ∀ i, i < n → 0 ≤ bx i) {v w : Nat} (hv : v < rdx bx n) (hw : w < rdx bx n) (h : ∀ i, i < n → dgE bx v i = dgE bx w i) : v = w := by
  have key : ∀ i, i ≤ n → v % rdx bx i = w % rdx bx i := by
    intro i
    induction i with
    | zero => intro _; show v % 1 = w % 1; omega
    | succ i ih =>
      intro hi
      have e1 : v % rdx bx (i + 1) = v % rdx bx i + rdx bx i * (v / rdx bx i % dxU bx i) := Nat.mod_mul
      have e2 : w % rdx bx (i + 1) = w % rdx bx i + rdx bx i * (w / rdx bx i % dxU bx i) := Nat.mod_mul
      have q := h i (by omega)
      unfold dgE at q
      have q : v / rdx bx i % dxU bx i = w / rdx bx i % dxU bx i := by omega
      rw [e1, e2, ih (by omega), q]
  have := key n (Nat.le_refl _)
  rw [Nat.mod_eq_of_lt hv, Nat.mod_eq_of_lt hw] at this
  exact this
theorem dg_on (hb : ∀ i, i < n → 0 ≤ bx i) {e : Nat → Int} (he : ∀ i, i < n → -bx i ≤ e i ∧ e i ≤ bx i) : ∀ m, m ≤ n → ∃ v, v < rdx bx m ∧ ∀ i, i < m → dgE bx v i = e i
  | 0, _ => ⟨0, Nat.one_pos, fun i hi => absurd hi (Nat.not_lt_zero i)⟩
  | m + 1, hm => by
    obtain ⟨v, v1, v2⟩ := dg_on hb he m (by omega)
    have r := rdx_pos hb m (by omega)
    have q := he m (by omega)
    have hc : (e m + bx m).toNat < dxU bx m := by unfold dxU; omega
    refine ⟨v + rdx bx m * (e m + bx m).toNat, ?_, fun i hi => ?_⟩
    · show _ < rdx bx m * dxU bx m
      have : rdx bx m * (e m + bx m).toNat + rdx bx m ≤ rdx bx m * dxU bx m := by
        rw [← Nat.mul_succ]; exact Nat.mul_le_mul_left _ hc
      omega
    · by_cases ei : i = m
      · subst ei
        unfold dgE
        rw [Nat.add_mul_div_left _ _ r, Nat.div_eq_of_lt v1, Nat.zero_add, Nat.mod_eq_of_lt hc]
        omega
      · rw [← v2 i (by omega)]
        obtain ⟨k, hk⟩ := rdx_dvd (bx := bx) (show i + 1 ≤ m by omega)
        unfold dgE
        rw [hk, show rdx bx (i + 1) * k * (e m + bx m).toNat = rdx bx i * (dxU bx i * (k * (e m + bx m).toNat)) by rw [show rdx bx (i + 1) = rdx bx i * dxU bx i from rfl, Nat.mul_assoc, Nat.mul_assoc], Nat.add_mul_div_left _ _ (rdx_pos hb i (by omega)), Nat.add_mul_mod_self_left]
theorem rdx_le (hb : ∀ i, i < n → 0 ≤ bx i ∧ bx i ≤ 4) : ∀ i, i ≤ n → rdx bx i ≤ 9 ^ i
  | 0, _ => Nat.le_refl _
  | i + 1, h => by
    show rdx bx i * dxU bx i ≤ 9 ^ i * 9
    have := hb i (by omega)
    exact Nat.mul_le_mul (rdx_le hb i (by omega)) (by unfold dxU; omega)
theorem rdx_6561 (hb : ∀ i, i < n → 0 ≤ bx i ∧ bx i ≤ 4) (hn : n ≤ 4) : rdx bx n ≤ 6561 := by
  have h := rdx_le hb n (Nat.le_refl _)
  have h2 : 9 ^ n ≤ 9 ^ 4 := Nat.pow_le_pow_right (by decide) hn
  exact Nat.le_trans h h2
end sw_dig
