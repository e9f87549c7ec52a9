/-! HOW MANY GROUPS: 44 at most; the table holds all answers -/
def cJ (F : Nat → Nat → Nat) (a b q : Nat) : Nat → Nat → Nat → Nat
  | 0, _, _ => 0
  | c + 1, up, dn => F (up * q) b + (F a (dn * q) + cJ F a b q c (up * q) (dn * q))
def cN (P : Nat) : List Nat → Nat → Nat → Nat
  | [], a, b => bif Nat.ble (2 * a) b && Nat.beq (P % (b - a)) 0 then 1 else 0
  | q :: qs, a, b => cN P qs a b + cJ (cN P qs) a b q 4 a b
def PL : List Nat := [2, 3, 5, 7, 11, 13, 17, 19, 23, 29, 31]
theorem cap0 : cN (1 ^ 4) [] 1 1 ≤ 44 := by decide +kernel
theorem cap1 : ∀ a ∈ PL, cN (a ^ 4) [a] 1 1 ≤ 44 := by decide +kernel
theorem cap2 : ∀ a ∈ PL, ∀ b ∈ PL, a < b → cN ((a * b) ^ 4) [a, b] 1 1 ≤ 44 := by decide +kernel
theorem cap3 : ∀ a ∈ PL, ∀ b ∈ PL, a < b → ∀ c ∈ PL, b < c → a * b * c ≤ 1000 → cN ((a * b * c) ^ 4) [a, b, c] 1 1 ≤ 44 := by decide +kernel
theorem cap4 : ∀ a ∈ PL, ∀ b ∈ PL, a < b → ∀ c ∈ PL, b < c → ∀ d ∈ PL, c < d → a * b * c * d ≤ 1000 → cN ((a * b * c * d) ^ 4) [a, b, c, d] 1 1 ≤ 44 := by decide +kernel
theorem PL_of : ∀ v ∈ primesL, v ≤ 31 → v.toNat ∈ PL := by decide +kernel
def rwN (p : Nat → Int) : Nat → Nat → List Nat
  | 0, _ => []
  | f + 1, i => (p i).toNat :: rwN p f (i + 1)
theorem cnt_J {G : Int × Int → Bool} {E : Int → Int → List (Int × Int)} {F : Nat → Nat → Nat} (hE : ∀ a b : Nat, ((E a b).filter G).length ≤ F a b) (a b q : Nat) : ∀ (c c' up dn : Nat), c ≤ c' → ((enJ E a b q c up dn).filter G).length ≤ cJ F a b q c' up dn
  | 0, _, _, _, _ => Nat.zero_le _
  | c + 1, 0, _, _, h => by omega
  | c + 1, c' + 1, up, dn, h => by
    show ((E (up * q) b ++ (E a (dn * q) ++ enJ E a b q c (up * q) (dn * q))).filter G).length ≤ F (up * q) b + (F a (dn * q) + cJ F a b q c' (up * q) (dn * q))
    rw [List.filter_append, List.filter_append, List.length_append, List.length_append, ← Int.natCast_mul, ← Int.natCast_mul]
    have h1 := hE (up * q) b
    have h2 := hE a (dn * q)
    have h3 := cnt_J hE a b q c c' (up * q) (dn * q) (by omega)
    omega
theorem cnt_en {P : Nat} {G : Int × Int → Bool} {p bx : Nat → Int} (hG : ∀ a b : Nat, G ((a : Int), (b : Int)) = true → 2 * a ≤ b ∧ P % (b - a) = 0) : ∀ (f i : Nat) (a b : Nat), (∀ j, i ≤ j → j < i + f → 0 ≤ p j ∧ bx j ≤ 4) → ((enL p bx f i a b).filter G).length ≤ cN P (rwN p f i) a b
  | 0, i, a, b, _ => by
    show ([((a : Int), (b : Int))].filter G).length ≤ bif Nat.ble (2 * a) b && Nat.beq (P % (b - a)) 0 then 1 else 0
    cases hg : G ((a : Int), (b : Int)) with
    | false => simp [hg]
    | true =>
      have h := hG a b hg
      rw [Nat.ble_eq_true_of_le h.1, h.2]
      simp [hg]
  | f + 1, i, a, b, h => by
    show ((enL p bx f (i + 1) a b ++ enJ (enL p bx f (i + 1)) a b (p i) (bx i).toNat a b).filter G).length ≤ cN P (rwN p f (i + 1)) a b + cJ (cN P (rwN p f (i + 1))) a b (p i).toNat 4 a b
    have hi := h i (by omega) (by omega)
    have ih := fun a b => cnt_en hG f (i + 1) a b (fun j h1 h2 => h j (by omega) (by omega))
    rw [List.filter_append, List.length_append]
    have h1 := ih a b
    have h2 := cnt_J ih a b (p i).toNat (bx i).toNat 4 a b (by omega)
    rw [show (((p i).toNat : Nat) : Int) = p i by omega] at h2
    omega
theorem PZ_dvd {p : Nat → Int} {f g : Nat → Nat} : ∀ n, (∀ i, i < n → f i ≤ g i) → PZ p f n ∣ PZ p g n
  | 0, _ => Int.dvd_refl _
  | n + 1, h => by
    show PZ p f n * p n ^ f n ∣ PZ p g n * p n ^ g n
    refine Int.mul_dvd_mul (PZ_dvd n (fun i hi => h i (by omega))) ⟨p n ^ (g n - f n), ?_⟩
    rw [← Int.pow_add]
    congr 1
    have := h n (by omega)
    omega
theorem PZ_prod (p : Nat → Int) : ∀ n, PZ p (fun _ => 4) n = prodZ p n ^ 4
  | 0 => rfl
  | n + 1 => by
    show PZ p (fun _ => 4) n * p n ^ 4 = (prodZ p n * p n) ^ 4
    rw [PZ_prod p n, Int.mul_pow]
theorem cap_ok {n : Nat} {p bx : Nat → Int} (kB : okB n p bx) : ((enL p bx n 0 1 1).filter (goodZ n p bx)).length ≤ 44 := by
  have hp := copP_of kB
  obtain ⟨k1, k2, k3, k4, k5⟩ := kB
  have gd : ∀ P : Nat, (P : Int) = prodZ p n ^ 4 → ∀ a b : Nat, goodZ n p bx ((a : Int), (b : Int)) = true → 2 * a ≤ b ∧ P % (b - a) = 0 := by
    intro P hP a b h
    unfold goodZ at h
    have h := of_decide_eq_true h
    obtain ⟨h1, h2⟩ := h
    have h1 : 2 * (a : Int) ≤ b := h1
    have h2 : holdZ p bx n 0 ((b : Int) - a) = 1 := h2
    refine ⟨by omega, ?_⟩
    obtain ⟨w, w1, w2⟩ := (hold_one hp (fun i hi => (k5 i hi).1)).mp h2
    have d := PZ_dvd (p := p) (f := w) (g := fun _ => 4) n (fun i hi => by have := w1 i hi; have := (k5 i hi).2; show w i ≤ 4; omega)
    rw [← w2, PZ_prod, ← hP, show (b : Int) - a = ((b - a : Nat) : Int) by omega, Int.natCast_dvd_natCast] at d
    exact Nat.mod_eq_zero_of_dvd d
  have fin : ∀ P : Nat, (P : Int) = prodZ p n ^ 4 → cN P (rwN p n 0) 1 1 ≤ 44 → ((enL p bx n 0 1 1).filter (goodZ n p bx)).length ≤ 44 := by
    intro P hP h
    have := cnt_en (p := p) (bx := bx) (gd P hP) n 0 1 1 (fun j _ h2 => ⟨by have := (k2 j (by omega)).2; omega, (k5 j (by omega)).2⟩)
    exact Nat.le_trans this h
  have pl : ∀ i, i < n → (p i).toNat ∈ PL ∧ (((p i).toNat : Nat) : Int) = p i := fun i hi => ⟨PL_of _ (isPr_mem (k2 i hi).1) (k2 i hi).2.2, by have := (k2 i hi).2; omega⟩
  clear gd
  match n, k1 with
  | 0, _ => exact fin (1 ^ 4) rfl cap0
  | 1, _ =>
    have q0 := pl 0 (by omega)
    refine fin ((p 0).toNat ^ 4) ?_ (cap1 _ q0.1)
    rw [Int.natCast_pow, q0.2]
    show _ = (1 * p 0) ^ 4
    rw [Int.one_mul]
  | 2, _ =>
    have q0 := pl 0 (by omega)
    have q1 := pl 1 (by omega)
    have l1 := k3 0 1 (by omega) (by omega)
    refine fin (((p 0).toNat * (p 1).toNat) ^ 4) ?_ (cap2 _ q0.1 _ q1.1 (by omega))
    rw [Int.natCast_pow, Int.natCast_mul, q0.2, q1.2]
    show _ = (1 * p 0 * p 1) ^ 4
    rw [Int.one_mul]
  | 3, _ =>
    have q0 := pl 0 (by omega)
    have q1 := pl 1 (by omega)
    have q2 := pl 2 (by omega)
    have l1 := k3 0 1 (by omega) (by omega)
    have l2 := k3 1 2 (by omega) (by omega)
    have e : (((p 0).toNat * (p 1).toNat * (p 2).toNat : Nat) : Int) = 1 * p 0 * p 1 * p 2 := by
      rw [Int.natCast_mul, Int.natCast_mul, q0.2, q1.2, q2.2, Int.one_mul]
    have k4 : 1 * p 0 * p 1 * p 2 ≤ 1000 := k4
    refine fin (((p 0).toNat * (p 1).toNat * (p 2).toNat) ^ 4) ?_ (cap3 _ q0.1 _ q1.1 (by omega) _ q2.1 (by omega) (by rw [← e] at k4; omega))
    rw [Int.natCast_pow, e]
    rfl
  | 4, _ =>
    have q0 := pl 0 (by omega)
    have q1 := pl 1 (by omega)
    have q2 := pl 2 (by omega)
    have q3 := pl 3 (by omega)
    have l1 := k3 0 1 (by omega) (by omega)
    have l2 := k3 1 2 (by omega) (by omega)
    have l3 := k3 2 3 (by omega) (by omega)
    have e : (((p 0).toNat * (p 1).toNat * (p 2).toNat * (p 3).toNat : Nat) : Int) = 1 * p 0 * p 1 * p 2 * p 3 := by
      rw [Int.natCast_mul, Int.natCast_mul, Int.natCast_mul, q0.2, q1.2, q2.2, q3.2, Int.one_mul]
    have k4 : 1 * p 0 * p 1 * p 2 * p 3 ≤ 1000 := k4
    refine fin (((p 0).toNat * (p 1).toNat * (p 2).toNat * (p 3).toNat) ^ 4) ?_ (cap4 _ q0.1 _ q1.1 (by omega) _ q2.1 (by omega) _ q3.1 (by omega) (by rw [← e] at k4; omega))
    rw [Int.natCast_pow, e]
    rfl
/-- two rows apart whose difference is a third: all three apart -/
theorem dj_of {n : Nat} {p bx : Nat → Int} (hp : copP n p) {u v w : Nat → Nat} (h1 : ∀ i, i < n → (u i : Int) ≤ bx i ∧ (v i : Int) ≤ bx i ∧ (u i = 0 ∨ v i = 0)) (h2 : ∀ i, i < n → (w i : Int) ≤ bx i) (e : PZ p v n - PZ p u n = PZ p w n) : dj3 n bx u v w := by
  intro i hi
  have q := h1 i hi
  have no : ∀ f : Nat → Nat, f i = 0 → ¬ PZ p f n % p i = 0 := fun f hf => cpZ_no (cp_PZ n (fun j hj => by
    by_cases ej : j = i
    · subst ej; exact Or.inl hf
    · exact Or.inr (hp.2 i j hi hj (fun h => ej h.symm)))) (hp.1 i hi)
  refine ⟨⟨q.1, q.2.1, h2 i hi⟩, q.2.2, ?_, ?_⟩
  · by_cases a : u i = 0
    · exact Or.inl a
    · refine Or.inr (Nat.eq_zero_of_not_pos fun b => no v (by omega) ?_)
      have m1 := PZ_mod (p := p) (f := u) hi (by omega)
      have m2 := PZ_mod (p := p) (f := w) hi b
      rw [show PZ p v n = PZ p u n + PZ p w n by omega, Int.add_emod, m1, m2]; rfl
  · by_cases a : v i = 0
    · exact Or.inl a
    · refine Or.inr (Nat.eq_zero_of_not_pos fun b => no u (by omega) ?_)
      have m1 := PZ_mod (p := p) (f := v) hi (by omega)
      have m2 := PZ_mod (p := p) (f := w) hi b
      rw [show PZ p u n = PZ p v n - PZ p w n by omega, Int.sub_emod, m1, m2]; rfl
theorem fill_all {n : Nat} {p bx : Nat → Int} (kB : okB n p bx) : ∃ L : List (Int × Int), invT (fillT n p bx) L ∧ L.Nodup ∧ L.length ≤ 44 ∧ ∀ x y, (x, y) ∈ L ↔ 0 < x ∧ 2 * x ≤ y ∧ ATri n p bx x y := by
  have hp := copP_of kB
  have hb : ∀ i, i < n → 0 ≤ bx i := fun i hi => (kB.2.2.2.2 i hi).1
  have A := enL_all (bx := bx) hp hb n 0 (fun _ => 0) (fun _ => 0) (by omega)
  have A : (enL p bx n 0 1 1).Nodup ∧ ∀ z, z ∈ enL p bx n 0 1 1 ↔ enP n p bx 0 (fun _ => 0) (fun _ => 0) z := A
  obtain ⟨a1, a2⟩ := A
  have c := cap_ok kB
  refine ⟨(enL p bx n 0 1 1).filter (goodZ n p bx), ?_, List.Pairwise.filter _ a1, c, fun x y => ?_⟩
  · have z0 : ∀ z ∈ enL p bx n 0 1 1, 0 < z.1 := by
      intro z hz
      obtain ⟨u, v, -, -, h3⟩ := (a2 z).mp hz
      rw [h3]
      exact PZ_pos n hp.1
    have I0 : invT (emptyT, 0) [] := ⟨fun i j _ hj => absurd hj (Nat.not_lt_zero j), rfl, Nat.le_refl _, fun a b g ⟨i, hi, _⟩ => absurd hi (Nat.not_lt_zero i), fun z hz => absurd hz List.not_mem_nil⟩
    have := try_fold (n := n) (p := p) (bx := bx) (enL p bx n 0 1 1) (emptyT, 0) [] I0 z0 (by simpa using c)
    unfold fillT
    rw [spread_fold]
    simpa using this
  · rw [List.mem_filter, a2]
    refine ⟨fun ⟨⟨u, v, _, h2, h3⟩, h4⟩ => ?_, fun ⟨h1, h2, h3⟩ => ?_⟩
    · rw [Prod.mk.injEq] at h3
      unfold goodZ at h4
      have h4 := of_decide_eq_true h4
      have h5 : 2 * x ≤ y := h4.1
      have h6 : holdZ p bx n 0 (y - x) = 1 := h4.2
      obtain ⟨w, w1, w2⟩ := (hold_one hp hb).mp h6
      have x0 : 0 < x := by rw [h3.1]; exact PZ_pos n hp.1
      refine ⟨x0, h5, by omega, u, v, w, dj_of hp (fun i hi => h2 i (by omega) hi) w1 (by rw [← h3.1, ← h3.2]; exact w2), ?_, h3.2, ?_⟩
      · rw [← h3.1]; omega
      · rw [← w2]; omega
    · obtain ⟨h0, f, g, h, d, e1, e2, e3⟩ := h3
      have e1 : x = PZ p f n := by omega
      have e3 : y - x = PZ p h n := by omega
      refine ⟨⟨f, g, fun j hj => absurd hj (Nat.not_lt_zero j), fun j _ hj => ⟨(d j hj).1.1, (d j hj).1.2.1, (d j hj).2.1⟩, by rw [← e1, ← e2]⟩, ?_⟩
      unfold goodZ
      refine decide_eq_true ⟨h2, (hold_one hp hb).mpr ⟨h, fun i hi => (d i hi).1.2.2, e3⟩⟩
theorem tab_in {n : Nat} {p bx : Nat → Int} (kB : okB n p bx) {a b : Int} : inT (ansT n p bx) a b ↔ ATri n p bx a b := by
  have hp := copP_of kB
  obtain ⟨L, I, -, -, hL⟩ := fill_all kB
  show inT (fillT n p bx).1 a b ↔ _
  refine ⟨fun h => ?_, fun h => ?_⟩
  · obtain ⟨g, h⟩ := inT_mem h
    obtain ⟨o, k, -, k2⟩ := I.2.2.2.1 a b g h
    have m := (hL _ _).mp (List.mem_of_getElem? k2)
    obtain ⟨j, j1, j2, j3⟩ := form_can o
    have := ATri_form hp m.2.2 j1
    rw [j2, j3] at this
    exact this
  · have o := ATri_ok hp h
    have c := ATri_can hp h
    have m9 := mn_b o
    exact I.2.2.2.2 _ ((hL _ _).mpr ⟨m9.1, m9.2, c⟩) a b o rfl rfl
theorem tab_srt {n : Nat} {p bx : Nat → Int} (kB : okB n p bx) : srtZ (ansT n p bx) := by
  obtain ⟨L, I, -⟩ := fill_all kB
  exact I.1
theorem tab_264 {n : Nat} {p bx : Nat → Int} (kB : okB n p bx) : (ansT n p bx).1 ≤ 264 := by
  obtain ⟨L, I, -, h3, -⟩ := fill_all kB
  have h1 : (ansT n p bx).1 ≤ 6 * (fillT n p bx).2 := I.2.2.1
  have h2 := I.2.1
  omega
