/-! WHAT IS LEFT: the class's nested sums, the reference's row of units -/
def sumN (g : Nat → Int) : Nat → Int
  | 0 => 0
  | c + 1 => sumN g c + g c
theorem sumN_congr {g h : Nat → Int} : ∀ c, (∀ i, i < c → g i = h i) → sumN g c = sumN h c
  | 0, _ => rfl
  | c + 1, q => by unfold sumN; rw [sumN_congr c (fun i hi => q i (by omega)), q c (by omega)]
theorem sumN_add {g h : Nat → Int} : ∀ c, sumN (fun i => g i + h i) c = sumN g c + sumN h c
  | 0 => rfl
  | c + 1 => by unfold sumN; rw [sumN_add c]; omega
theorem sumN_zero : ∀ c, sumN (fun _ => 0) c = 0
  | 0 => rfl
  | c + 1 => by unfold sumN; rw [sumN_zero c]; rfl
theorem sumN_swap {g : Nat → Nat → Int} (m : Nat) : ∀ n, sumN (fun a => sumN (fun b => g a b) m) n = sumN (fun b => sumN (fun a => g a b) n) m
  | 0 => by show (0 : Int) = sumN (fun _ => 0) m; rw [sumN_zero]
  | n + 1 => by
    show sumN (fun a => sumN (fun b => g a b) m) n + sumN (fun b => g n b) m = sumN (fun b => sumN (fun a => g a b) n + g n b) m
    rw [sumN_add, sumN_swap m n]
theorem sumN_app {g : Nat → Int} {a : Nat} : ∀ c, sumN g (a + c) = sumN g a + sumN (fun i => g (a + i)) c
  | 0 => by show sumN g a = sumN g a + 0; omega
  | c + 1 => by show sumN g (a + c) + g (a + c) = sumN g a + (sumN (fun i => g (a + i)) c + g (a + c)); rw [sumN_app c]; omega
theorem sumN_mul {g : Nat → Int} {R : Nat} : ∀ d, sumN g (R * d) = sumN (fun t => sumN (fun w => g (w + R * t)) R) d
  | 0 => rfl
  | d + 1 => by
    show sumN g (R * d + R) = sumN (fun t => sumN (fun w => g (w + R * t)) R) d + sumN (fun w => g (w + R * d)) R
    rw [sumN_app, sumN_mul d]
    congr 1
    exact sumN_congr R (fun i _ => by rw [Nat.add_comm])
theorem sumN_two {g : Nat → Int} : ∀ R, sumN g (2 * R) = sumN (fun w => g (2 * w) + g (2 * w + 1)) R
  | 0 => rfl
  | R + 1 => by
    show sumN g (2 * R) + g (2 * R) + g (2 * R + 1) = sumN (fun w => g (2 * w) + g (2 * w + 1)) R + (g (2 * R) + g (2 * R + 1))
    rw [sumN_two R]; omega
theorem cntB_sum {f : Nat → Bool} : ∀ c, (cntB f c : Int) = sumN (fun u => if f u then 1 else 0) c
  | 0 => rfl
  | c + 1 => by
    show ((cntB f c + (if f c then 1 else 0) : Nat) : Int) = sumN (fun u => if f u then 1 else 0) c + (if f c then 1 else 0)
    rw [← cntB_sum c]
    cases f c
    · rfl
    · rfl
/-- nested, the first prime outermost -/
def nesN (bx : Nat → Int) (G : (Nat → Int) → Int) : Nat → Nat → (Nat → Int) → Int
  | 0, _, e => G e
  | f + 1, i, e => sumN (fun t => nesN bx G f (i + 1) (va_up e i ((t : Int) - bx i))) (dxU bx i)
theorem nes_congr {n : Nat} {bx : Nat → Int} {G : (Nat → Int) → Int} (hG : ∀ e e', (∀ j, j < n → e j = e' j) → G e = G e') : ∀ f i e e', i + f = n → (∀ j, j < i → e j = e' j) → nesN bx G f i e = nesN bx G f i e'
  | 0, i, e, e', hi, h => hG e e' (fun j hj => h j (by omega))
  | f + 1, i, e, e', hi, h => by
    refine sumN_congr _ (fun t _ => nes_congr hG f (i + 1) _ _ (by omega) (fun j hj => ?_))
    by_cases ej : j = i
    · subst ej; simp [va_up]
    · simp only [va_up, if_neg ej]; exact h j (by omega)
theorem nes_dig {n : Nat} {bx : Nat → Int} {G : (Nat → Int) → Int} (hb : ∀ i, i < n → 0 ≤ bx i) (hG : ∀ e e', (∀ j, j < n → e j = e' j) → G e = G e') : ∀ i f, i + f = n → sumN (fun w => nesN bx G f i (dgE bx w)) (rdx bx i) = nesN bx G n 0 (dgE bx 0)
  | 0, f, hi => by
    have : f = n := by omega
    subst this
    show (0 : Int) + nesN bx G f 0 (dgE bx 0) = _
    omega
  | i + 1, f, hi => by
    rw [← nes_dig hb hG i (f + 1) (by omega)]
    show sumN (fun w => nesN bx G f (i + 1) (dgE bx w)) (rdx bx i * dxU bx i) = sumN (fun w => sumN (fun t => nesN bx G f (i + 1) (va_up (dgE bx w) i ((t : Int) - bx i))) (dxU bx i)) (rdx bx i)
    rw [sumN_mul, sumN_swap]
    have r := rdx_pos hb i (by omega)
    refine sumN_congr _ (fun w hw => sumN_congr _ (fun t ht => nes_congr hG f (i + 1) _ _ (by omega) (fun j hj => ?_)))
    by_cases ej : j = i
    · subst ej
      simp only [va_up, if_true]
      unfold dgE
      rw [Nat.add_mul_div_left _ _ r, Nat.div_eq_of_lt hw, Nat.zero_add, Nat.mod_eq_of_lt ht]
    · simp only [va_up, if_neg ej]
      obtain ⟨k, hk⟩ := rdx_dvd (bx := bx) (show j + 1 ≤ i by omega)
      unfold dgE
      rw [hk, show rdx bx (j + 1) * k * t = rdx bx j * (dxU bx j * (k * t)) by rw [show rdx bx (j + 1) = rdx bx j * dxU bx j from rfl, Nat.mul_assoc, Nat.mul_assoc], Nat.add_mul_div_left _ _ (rdx_pos hb j (by omega)), Nat.add_mul_mod_self_left]
-- the class's sums
theorem resM_congr {q : Nat} {sg : Int} {p e e' : Nat → Int} : ∀ n, (∀ j, j < n → e j = e' j) → resM q sg p e n = resM q sg p e' n
  | 0, _ => rfl
  | n + 1, h => by rw [resM_pw, resM_pw, resM_congr n (fun j hj => h j (by omega)), h n (by omega)]
theorem cau_iff {q : Nat → Nat} {m : Nat → Nat → Bool} {sg : Int} {v : Nat → Int} : ∀ c s, cauZ q m sg v c s = false ↔ ∀ t, s ≤ t → t < s + c → m t ((1 - sg * v t) % q t).toNat = true
  | 0, s => ⟨fun _ t h1 h2 => by omega, fun _ => rfl⟩
  | c + 1, s => by
    unfold cauZ
    cases hm : m s ((1 - sg * v s) % q s).toNat with
    | true =>
      rw [if_pos rfl, cau_iff c (s + 1)]
      refine ⟨fun h t h1 h2 => ?_, fun h t h1 h2 => h t (by omega) (by omega)⟩
      by_cases e : t = s
      · subst e; exact hm
      · exact h t (by omega) (by omega)
    | false =>
      rw [if_neg (by decide)]
      refine ⟨fun h => absurd h (by decide), fun h => ?_⟩
      have := h s (by omega) (by omega)
      rw [hm] at this; cases this
theorem cau_congr {q : Nat → Nat} {m : Nat → Nat → Bool} {sg : Int} {v v' : Nat → Int} (k : Nat) (h : ∀ s, s < k → v s = v' s) : cauZ q m sg v k 0 = cauZ q m sg v' k 0 := by
  have key : cauZ q m sg v k 0 = false ↔ cauZ q m sg v' k 0 = false := by
    rw [cau_iff, cau_iff]
    refine ⟨fun H t h1 h2 => ?_, fun H t h1 h2 => ?_⟩
    · rw [← h t (by omega)]; exact H t h1 h2
    · rw [h t (by omega)]; exact H t h1 h2
  cases h1 : cauZ q m sg v k 0 with
  | false => rw [key.mp h1]
  | true =>
    cases h2 : cauZ q m sg v' k 0 with
    | false => rw [key.mpr h2] at h1; cases h1
    | true => rfl
theorem sum_sum {F : (Nat → Int) → Int} {q : Nat → Nat} {p : Int} : ∀ (c : Nat) (v : Nat → Int) (w : Nat → Nat → Int) (k : Nat), (∀ v v', (∀ s, s < k → v s = v' s) → F v = F v') → (∀ s, s < k → w 0 s = v s) → (∀ t s, s < k → w (t + 1) s = w t s * p % q s) → sumZ F q p c v = sumN (fun t => F (w t)) c
  | 0, _, _, _, _, _, _ => rfl
  | c + 1, v, w, k, hF, h0, h1 => by
    show F v + sumZ F q p c (fun s => v s * p % q s) = sumN (fun t => F (w t)) (c + 1)
    rw [sum_sum c (fun s => v s * p % q s) (fun t => w (t + 1)) k hF (fun s hs => by rw [h1 0 s hs, h0 s hs]) (fun t s hs => h1 (t + 1) s hs), Nat.add_comm c 1, sumN_app]
    show _ = (0 + F (w 0)) + sumN (fun i => F (w (1 + i))) c
    rw [hF v (w 0) (fun s hs => (h0 s hs).symm), sumN_congr (g := fun t => F (w (t + 1))) (h := fun i => F (w (1 + i))) c (fun i _ => by rw [Nat.add_comm])]
    omega
theorem pass_congr {k : Nat} {q : Nat → Nat} {m : Nat → Nat → Bool} {p bx : Nat → Int} : ∀ f i v v', (∀ s, s < k → v s = v' s) → passZ k q m p bx f i v = passZ k q m p bx f i v'
  | 0, i, v, v', h => by
    show signsZ k q m v = signsZ k q m v'
    unfold signsZ
    rw [cau_congr k h, cau_congr k h]
  | f + 1, i, v, v', h => by
    have key : ∀ c (v v' : Nat → Int), (∀ s, s < k → v s = v' s) → sumZ (passZ k q m p bx f (i + 1)) q (p i) c v = sumZ (passZ k q m p bx f (i + 1)) q (p i) c v' := by
      intro c
      induction c with
      | zero => intro v v' _; rfl
      | succ c ih =>
        intro v v' h
        show passZ k q m p bx f (i + 1) v + sumZ _ q (p i) c (fun s => v s * p i % q s) = passZ k q m p bx f (i + 1) v' + sumZ _ q (p i) c (fun s => v' s * p i % q s)
        rw [pass_congr f (i + 1) v v' h, ih _ _ (fun s hs => by rw [h s hs])]
    exact key _ _ _ (fun s hs => by rw [h s hs])
theorem pass_nes {k n : Nat} {q : Nat → Nat} {m : Nat → Nat → Bool} {p bx : Nat → Int} (O : ∀ s, s < k → okQ n p (q s)) (hb : ∀ i, i < n → 0 ≤ bx i) : ∀ f i (v : Nat → Int) (e : Nat → Int), i + f = n → (∀ s, s < k → v s = resM (q s) 1 p e i) → passZ k q m p bx f i v = nesN bx (fun e => signsZ k q m (fun s => resM (q s) 1 p e n)) f i e
  | 0, i, v, e, hi, h => by
    have hi : i = n := hi
    subst hi
    exact pass_congr 0 i v _ h
  | f + 1, i, v, e, hi, h => by
    show sumZ (passZ k q m p bx f (i + 1)) q (p i) (2 * bx i + 1).toNat (fun s => v s * powM (q s) (p i) ((-bx i) % (q s - 1 : Nat)).toNat % q s) = sumN (fun t => nesN bx _ f (i + 1) (va_up e i ((t : Int) - bx i))) (dxU bx i)
    rw [sum_sum (2 * bx i + 1).toNat _ (fun t s => resM (q s) 1 p (va_up e i ((t : Int) - bx i)) (i + 1)) k (pass_congr f (i + 1)) (fun s hs => ?_) (fun t s hs => ?_)]
    · exact sumN_congr _ (fun t _ => pass_nes O hb f (i + 1) _ _ (by omega) (fun s hs => rfl))
    · rw [resM_pw, resM_congr (e' := e) i (fun j hj => by simp only [va_up]; rw [if_neg (by omega)]), ← h s hs]
      simp only [va_up, if_true]
      unfold pwM
      rw [show ((0 : Nat) : Int) - bx i = -bx i by omega]
    · have o := O s hs
      rw [resM_pw, resM_pw, resM_congr (e' := e) i (fun j hj => by simp only [va_up]; rw [if_neg (by omega)]), resM_congr (e := va_up e i ((t : Int) - bx i)) (e' := e) i (fun j hj => by simp only [va_up]; rw [if_neg (by omega)])]
      simp only [va_up, if_true]
      rw [show ((t + 1 : Nat) : Int) - bx i = ((t : Int) - bx i) + 1 by omega, pwM_up o.1 (okQ_f o (by omega)), mm_r, mm_l, Int.mul_assoc]
theorem res_neg {q : Nat} (hq : 3 ≤ q) {p e : Nat → Int} : ∀ n, (resM q (-1) p e n + resM q 1 p e n) % q = 0
  | 0 => by
    show ((if (-1 : Int) < 0 then (q : Int) - 1 else 1) + (if (1 : Int) < 0 then (q : Int) - 1 else 1)) % q = 0
    rw [if_pos (by decide), if_neg (by decide), show (q : Int) - 1 + 1 = q by omega, Int.emod_self]
  | n + 1 => by
    rw [resM_pw, resM_pw, ← Int.add_emod, ← Int.add_mul, ← mm_l, res_neg hq n, Int.zero_mul, Int.zero_emod]
theorem not_of {a b : Bool} (h : a = false ↔ b = true) : a = !b := by cases a <;> cases b <;> simp_all
def pasB (P : Nat → Bool) : Nat → Bool
  | 0 => true
  | s + 1 => pasB P s && P s
theorem pasB_iff {P : Nat → Bool} : ∀ k, pasB P k = true ↔ ∀ t, t < k → P t = true
  | 0 => ⟨fun _ t ht => absurd ht (Nat.not_lt_zero t), fun _ => rfl⟩
  | k + 1 => by
    show (pasB P k && P k) = true ↔ _
    rw [Bool.and_eq_true, pasB_iff k]
    refine ⟨fun ⟨h1, h2⟩ t ht => ?_, fun h => ⟨fun t ht => h t (by omega), h k (by omega)⟩⟩
    by_cases e : t = k
    · subst e; exact h2
    · exact h1 t (by omega)
/-- whether the u-th unit passes the s-th sieve -/
def pasU (n : Nat) (p bx : Nat → Int) (q : Nat → Nat) (m : Nat → Nat → Bool) (u s : Nat) : Bool := m s ((1 - resM (q s) (sgU u) p (dgE bx (u / 2)) n) % (q s : Nat)).toNat
theorem left_cnt {k n : Nat} {q : Nat → Nat} {m : Nat → Nat → Bool} {p bx : Nat → Int} (O : ∀ s, s < k → okQ n p (q s)) (hb : ∀ i, i < n → 0 ≤ bx i) : passZ k q m p bx n 0 (fun _ => 1) = (cntB (fun u => pasB (pasU n p bx q m u) k) (2 * rdx bx n) : Nat) := by
  have hG : ∀ e e' : Nat → Int, (∀ j, j < n → e j = e' j) → signsZ k q m (fun s => resM (q s) 1 p e n) = signsZ k q m (fun s => resM (q s) 1 p e' n) := fun e e' h => by
    unfold signsZ
    rw [cau_congr k (fun s _ => resM_congr n h), cau_congr k (fun s _ => resM_congr n h)]
  rw [pass_nes O hb n 0 _ (dgE bx 0) (by omega) (fun s hs => (by show (1 : Int) = if (1 : Int) < 0 then _ else 1; rw [if_neg (by decide)])), ← nes_dig hb hG n 0 (by omega), cntB_sum, sumN_two]
  refine sumN_congr _ (fun w _ => ?_)
  show signsZ k q m (fun s => resM (q s) 1 p (dgE bx w) n) = _
  have c1 : cauZ q m 1 (fun s => resM (q s) 1 p (dgE bx w) n) k 0 = ! pasB (pasU n p bx q m (2 * w)) k := by
    refine not_of ?_
    rw [cau_iff, pasB_iff]
    refine ⟨fun H t ht => ?_, fun H t _ ht => ?_⟩
    · have := H t (by omega) (by omega)
      unfold pasU
      rw [show sgU (2 * w) = 1 by unfold sgU; rw [if_pos (by omega)], show 2 * w / 2 = w by omega]
      rw [Int.one_mul] at this
      exact this
    · have := H t (by omega)
      unfold pasU at this
      rw [show sgU (2 * w) = 1 by unfold sgU; rw [if_pos (by omega)], show 2 * w / 2 = w by omega] at this
      rw [Int.one_mul]
      exact this
  have eqv : ∀ t, t < k → (1 - resM (q t) (-1) p (dgE bx w) n) % (q t : Nat) = (1 - -1 * resM (q t) 1 p (dgE bx w) n) % (q t : Nat) := by
    intro t ht
    have z := res_neg (O t ht).1 (p := p) (e := dgE bx w) n
    have : (1 - -1 * resM (q t) 1 p (dgE bx w) n) = (1 - resM (q t) (-1) p (dgE bx w) n) + (resM (q t) (-1) p (dgE bx w) n + resM (q t) 1 p (dgE bx w) n) := by omega
    rw [this, Int.add_emod, z, Int.add_zero, Int.emod_emod]
  have c2 : cauZ q m (-1) (fun s => resM (q s) 1 p (dgE bx w) n) k 0 = ! pasB (pasU n p bx q m (2 * w + 1)) k := by
    refine not_of ?_
    rw [cau_iff, pasB_iff]
    refine ⟨fun H t ht => ?_, fun H t _ ht => ?_⟩
    · have := H t (by omega) (by omega)
      unfold pasU
      rw [show sgU (2 * w + 1) = -1 by unfold sgU; rw [if_neg (by omega)], show (2 * w + 1) / 2 = w by omega, eqv t ht]
      exact this
    · have := H t (by omega)
      unfold pasU at this
      rw [show sgU (2 * w + 1) = -1 by unfold sgU; rw [if_neg (by omega)], show (2 * w + 1) / 2 = w by omega, eqv t (by omega)] at this
      exact this
  unfold signsZ
  rw [c1, c2]
  cases pasB (pasU n p bx q m (2 * w)) k <;> cases pasB (pasU n p bx q m (2 * w + 1)) k <;> rfl
