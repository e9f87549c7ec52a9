/-! ALL ANSWERS: what spread tries, as a list without repeats -/
theorem TZ_congr {p : Nat → Int} {f g : Nat → Nat} : ∀ m i, (∀ j, i ≤ j → j < i + m → f j = g j) → TZ p f m i = TZ p g m i
  | 0, _, _ => rfl
  | m + 1, i, h => by
    show p i ^ f i * TZ p f m (i + 1) = p i ^ g i * TZ p g m (i + 1)
    rw [h i (by omega) (by omega), TZ_congr m (i + 1) (fun j h1 h2 => h j (by omega) (by omega))]
theorem hold_to {p bx : Nat → Int} : ∀ (m i : Nat) (r : Int), (∀ j, i ≤ j → j < i + m → 0 ≤ bx j) → holdZ p bx m i r = 1 → ∃ w : Nat → Nat, (∀ j, i ≤ j → j < i + m → (w j : Int) ≤ bx j) ∧ r = TZ p w m i
  | 0, i, r, _, h => ⟨fun _ => 0, fun j h1 h2 => by omega, h⟩
  | m + 1, i, r, hb, h => by
    have h : holdZ p bx m (i + 1) (divUp (p i) (bx i).toNat r) = 1 := h
    obtain ⟨w, w1, w2⟩ := hold_to m (i + 1) _ (fun j h1 h2 => hb j (by omega) (by omega)) h
    refine ⟨va_up w i (cntUp (p i) (bx i).toNat r), fun j h1 h2 => ?_, ?_⟩
    · by_cases e : j = i
      · subst e
        have h3 := cntUp_le (p j) (bx j).toNat r
        have h4 := hb j (by omega) (by omega)
        simp only [va_up, if_true]
        omega
      · simp only [va_up, if_neg e]
        exact w1 j (by omega) (by omega)
    · show r = p i ^ (va_up w i (cntUp (p i) (bx i).toNat r)) i * TZ p (va_up w i (cntUp (p i) (bx i).toNat r)) m (i + 1)
      rw [TZ_congr (g := w) m (i + 1) (fun j h1 h2 => by simp only [va_up]; rw [if_neg (by omega)]), ← w2]
      simp only [va_up, if_true]
      exact (cnt_back (p i) (bx i).toNat r).symm
theorem hold_from {n : Nat} {p bx : Nat → Int} {w : Nat → Nat} (hp : copP n p) : ∀ (m i : Nat), i + m = n → (∀ j, i ≤ j → j < n → (w j : Int) ≤ bx j) → holdZ p bx m i (TZ p w m i) = 1
  | 0, _, _, _ => rfl
  | m + 1, i, hi, hw => by
    show holdZ p bx m (i + 1) (divUp (p i) (bx i).toNat (p i ^ w i * TZ p w m (i + 1))) = 1
    have h1 := hw i (by omega) (by omega)
    rw [(cnt_pow (hp.1 i (by omega)) (cpZ_no (cp_TZ _ _ (fun j h1 h2 => Or.inr (hp.2 i j (by omega) (by omega) (by omega)))) (hp.1 i (by omega))) (w i) (bx i).toNat (by omega)).2]
    exact hold_from hp m (i + 1) (by omega) (fun j h1 h2 => hw j (by omega) h2)
theorem hold_one {n : Nat} {p bx : Nat → Int} {r : Int} (hp : copP n p) (hb : ∀ i, i < n → 0 ≤ bx i) : holdZ p bx n 0 r = 1 ↔ ∃ w : Nat → Nat, (∀ i, i < n → (w i : Int) ≤ bx i) ∧ r = PZ p w n := by
  refine ⟨fun h => ?_, fun ⟨w, w1, w2⟩ => ?_⟩
  · obtain ⟨w, w1, w2⟩ := hold_to n 0 r (fun j _ h2 => hb j (by omega)) h
    exact ⟨w, fun i hi => w1 i (by omega) (by omega), by rw [w2, TZ_0]⟩
  · rw [w2, ← TZ_0]
    exact hold_from hp n 0 (by omega) (fun j _ h2 => w1 j h2)
def enJ (F : Int → Int → List (Int × Int)) (a b q : Int) : Nat → Int → Int → List (Int × Int)
  | 0, _, _ => []
  | c + 1, up, dn => F (up * q) b ++ (F a (dn * q) ++ enJ F a b q c (up * q) (dn * q))
def enL (p bx : Nat → Int) : Nat → Nat → Int → Int → List (Int × Int)
  | 0, _, a, b => [(a, b)]
  | f + 1, i, a, b => enL p bx f (i + 1) a b ++ enJ (enL p bx f (i + 1)) a b (p i) (bx i).toNat a b
abbrev tryF (n : Nat) (p bx : Nat → Int) (s : StZ) (z : Int × Int) : StZ := tryT n p bx s z.1 z.2
theorem goT_fold {n : Nat} {p bx : Nat → Int} {F : Int → Int → StZ → StZ} {E : Int → Int → List (Int × Int)} (hF : ∀ a b s, F a b s = (E a b).foldl (tryF n p bx) s) (a b q : Int) : ∀ (c : Nat) (up dn : Int) (s : StZ), goT F a b q c up dn s = (enJ E a b q c up dn).foldl (tryF n p bx) s
  | 0, _, _, _ => rfl
  | c + 1, up, dn, s => by
    show goT F a b q c (up * q) (dn * q) (F a (dn * q) (F (up * q) b s)) = (E (up * q) b ++ (E a (dn * q) ++ enJ E a b q c (up * q) (dn * q))).foldl (tryF n p bx) s
    rw [List.foldl_append, List.foldl_append, goT_fold hF a b q c, hF, hF]
theorem spread_fold {n : Nat} {p bx : Nat → Int} : ∀ (f i : Nat) (a b : Int) (s : StZ), spreadT n p bx f i a b s = (enL p bx f i a b).foldl (tryF n p bx) s
  | 0, _, _, _, _ => rfl
  | f + 1, i, a, b, s => by
    show goT (spreadT n p bx f (i + 1)) a b (p i) (bx i).toNat a b (spreadT n p bx f (i + 1) a b s) = (enL p bx f (i + 1) a b ++ enJ (enL p bx f (i + 1)) a b (p i) (bx i).toNat a b).foldl (tryF n p bx) s
    rw [List.foldl_append, goT_fold (E := enL p bx f (i + 1)) (fun a b s => spread_fold f (i + 1) a b s), spread_fold f (i + 1)]
/-- the pair of two rows of powers, apart, within the boxes from i on, as told below i -/
def enP (n : Nat) (p bx : Nat → Int) (i : Nat) (u0 v0 : Nat → Nat) (z : Int × Int) : Prop := ∃ u v : Nat → Nat, (∀ j, j < i → u j = u0 j ∧ v j = v0 j) ∧ (∀ j, i ≤ j → j < n → (u j : Int) ≤ bx j ∧ (v j : Int) ≤ bx j ∧ (u j = 0 ∨ v j = 0)) ∧ z = (PZ p u n, PZ p v n)
theorem PZ_up {p : Nat → Int} {u : Nat → Nat} {i s : Nat} : PZ p (va_up u i s) (i + 1) = PZ p u i * p i ^ s := by
  show PZ p (va_up u i s) i * p i ^ (va_up u i s) i = _
  rw [PZ_congr (g := u) i (fun j hj => by simp only [va_up]; rw [if_neg (by omega)])]
  simp [va_up]
theorem enP_up {n : Nat} {p bx : Nat → Int} {i s t : Nat} {u0 v0 : Nat → Nat} {z : Int × Int} (h : enP n p bx (i + 1) (va_up u0 i s) (va_up v0 i t) z) (hs : (s : Int) ≤ bx i) (ht : (t : Int) ≤ bx i) (h0 : s = 0 ∨ t = 0) : enP n p bx i u0 v0 z := by
  obtain ⟨u, v, h1, h2, h3⟩ := h
  refine ⟨u, v, fun j hj => ?_, fun j h4 h5 => ?_, h3⟩
  · have := h1 j (by omega)
    simp only [va_up] at this
    rw [if_neg (by omega), if_neg (by omega)] at this
    exact this
  · by_cases e : j = i
    · subst e
      have := h1 j (by omega)
      simp only [va_up, if_true] at this
      rw [this.1, this.2]
      exact ⟨hs, ht, h0⟩
    · exact h2 j (by omega) h5
theorem enP_tag {n : Nat} {p bx : Nat → Int} (hp : copP n p) {i s t s' t' : Nat} {u0 v0 : Nat → Nat} {z : Int × Int} (hi : i < n) (h : enP n p bx (i + 1) (va_up u0 i s) (va_up v0 i t) z) (h' : enP n p bx (i + 1) (va_up u0 i s') (va_up v0 i t') z) : s = s' ∧ t = t' := by
  obtain ⟨u, v, h1, -, h3⟩ := h
  obtain ⟨u', v', k1, -, k3⟩ := h'
  rw [h3, Prod.mk.injEq] at k3
  have e1 := PZ_inj hp k3.1 i hi
  have e2 := PZ_inj hp k3.2 i hi
  have q1 := h1 i (by omega)
  have q2 := k1 i (by omega)
  simp only [va_up, if_true] at q1 q2
  omega
/-- what one level adds -/
theorem enJ_all {n : Nat} {p bx : Nat → Int} (hp : copP n p) {f i : Nat} (hi : i + 1 + f = n) {u0 v0 : Nat → Nat}
    (ih : ∀ s t : Nat, (enL p bx f (i + 1) (PZ p (va_up u0 i s) (i + 1)) (PZ p (va_up v0 i t) (i + 1))).Nodup ∧ ∀ z, z ∈ enL p bx f (i + 1) (PZ p (va_up u0 i s) (i + 1)) (PZ p (va_up v0 i t) (i + 1)) ↔ enP n p bx (i + 1) (va_up u0 i s) (va_up v0 i t) z) (hu : u0 i = 0) (hv : v0 i = 0) :
    ∀ (c k : Nat), (enJ (enL p bx f (i + 1)) (PZ p u0 i) (PZ p v0 i) (p i) c (PZ p u0 i * p i ^ k) (PZ p v0 i * p i ^ k)).Nodup ∧ ∀ z, z ∈ enJ (enL p bx f (i + 1)) (PZ p u0 i) (PZ p v0 i) (p i) c (PZ p u0 i * p i ^ k) (PZ p v0 i * p i ^ k) ↔ ∃ j, k < j ∧ j ≤ k + c ∧ (enP n p bx (i + 1) (va_up u0 i j) (va_up v0 i 0) z ∨ enP n p bx (i + 1) (va_up u0 i 0) (va_up v0 i j) z) := by
  intro c
  induction c with
  | zero =>
    intro k
    refine ⟨List.nodup_nil, fun z => ⟨fun h => absurd h List.not_mem_nil, fun ⟨j, h1, h2, _⟩ => by omega⟩⟩
  | succ c ihc =>
    intro k
    have e1 : PZ p u0 i * p i ^ k * p i = PZ p (va_up u0 i (k + 1)) (i + 1) := by rw [PZ_up, Int.pow_succ, Int.mul_assoc]
    have e2 : PZ p v0 i * p i ^ k * p i = PZ p (va_up v0 i (k + 1)) (i + 1) := by rw [PZ_up, Int.pow_succ, Int.mul_assoc]
    have e3 : PZ p u0 i = PZ p (va_up u0 i 0) (i + 1) := by rw [PZ_up]; simp
    have e4 : PZ p v0 i = PZ p (va_up v0 i 0) (i + 1) := by rw [PZ_up]; simp
    obtain ⟨n3, m3⟩ := ihc (k + 1)
    rw [Int.pow_succ, ← Int.mul_assoc, ← Int.mul_assoc] at n3 m3
    have hA : enL p bx f (i + 1) (PZ p u0 i * p i ^ k * p i) (PZ p v0 i) = enL p bx f (i + 1) (PZ p (va_up u0 i (k + 1)) (i + 1)) (PZ p (va_up v0 i 0) (i + 1)) := by rw [e1, ← e4]
    have hB : enL p bx f (i + 1) (PZ p u0 i) (PZ p v0 i * p i ^ k * p i) = enL p bx f (i + 1) (PZ p (va_up u0 i 0) (i + 1)) (PZ p (va_up v0 i (k + 1)) (i + 1)) := by rw [e2, ← e3]
    show (enL p bx f (i + 1) (PZ p u0 i * p i ^ k * p i) (PZ p v0 i) ++ (enL p bx f (i + 1) (PZ p u0 i) (PZ p v0 i * p i ^ k * p i) ++ enJ (enL p bx f (i + 1)) (PZ p u0 i) (PZ p v0 i) (p i) c (PZ p u0 i * p i ^ k * p i) (PZ p v0 i * p i ^ k * p i))).Nodup ∧ ∀ z, z ∈ enL p bx f (i + 1) (PZ p u0 i * p i ^ k * p i) (PZ p v0 i) ++ (enL p bx f (i + 1) (PZ p u0 i) (PZ p v0 i * p i ^ k * p i) ++ enJ (enL p bx f (i + 1)) (PZ p u0 i) (PZ p v0 i) (p i) c (PZ p u0 i * p i ^ k * p i) (PZ p v0 i * p i ^ k * p i)) ↔ _
    generalize enJ (enL p bx f (i + 1)) (PZ p u0 i) (PZ p v0 i) (p i) c (PZ p u0 i * p i ^ k * p i) (PZ p v0 i * p i ^ k * p i) = J at n3 m3
    rw [hA, hB]
    obtain ⟨n1, m1⟩ := ih (k + 1) 0
    obtain ⟨n2, m2⟩ := ih 0 (k + 1)
    generalize enL p bx f (i + 1) (PZ p (va_up u0 i (k + 1)) (i + 1)) (PZ p (va_up v0 i 0) (i + 1)) = A at n1 m1
    generalize enL p bx f (i + 1) (PZ p (va_up u0 i 0) (i + 1)) (PZ p (va_up v0 i (k + 1)) (i + 1)) = B at n2 m2
    refine ⟨?_, fun z => ?_⟩
    · rw [List.nodup_append]
      refine ⟨n1, ?_, ?_⟩
      · rw [List.nodup_append]
        refine ⟨n2, n3, fun x hx y hy e => ?_⟩
        subst e
        obtain ⟨j, j1, j2, h | h⟩ := (m3 x).mp hy
        · have := enP_tag hp (by omega) ((m2 x).mp hx) h; omega
        · have := enP_tag hp (by omega) ((m2 x).mp hx) h; omega
      · intro x hx y hy e
        subst e
        rcases List.mem_append.mp hy with hy | hy
        · have := enP_tag hp (by omega) ((m1 x).mp hx) ((m2 x).mp hy); omega
        · obtain ⟨j, j1, j2, h | h⟩ := (m3 x).mp hy
          · have := enP_tag hp (by omega) ((m1 x).mp hx) h; omega
          · have := enP_tag hp (by omega) ((m1 x).mp hx) h; omega
    · rw [List.mem_append, List.mem_append, m1, m2, m3]
      refine ⟨fun h => ?_, fun ⟨j, j1, j2, h⟩ => ?_⟩
      · rcases h with h | h | ⟨j, j1, j2, h⟩
        · exact ⟨k + 1, by omega, by omega, Or.inl h⟩
        · exact ⟨k + 1, by omega, by omega, Or.inr h⟩
        · exact ⟨j, by omega, by omega, h⟩
      · by_cases e : j = k + 1
        · subst e
          rcases h with h | h
          · exact Or.inl h
          · exact Or.inr (Or.inl h)
        · exact Or.inr (Or.inr ⟨j, by omega, by omega, h⟩)
theorem enP_congr {n : Nat} {p bx : Nat → Int} {i : Nat} {u0 v0 u1 v1 : Nat → Nat} (h : ∀ j, j < i → u0 j = u1 j ∧ v0 j = v1 j) {z : Int × Int} : enP n p bx i u0 v0 z ↔ enP n p bx i u1 v1 z := by
  refine ⟨fun ⟨u, v, h1, h2, h3⟩ => ⟨u, v, fun j hj => ⟨(h1 j hj).1.trans (h j hj).1, (h1 j hj).2.trans (h j hj).2⟩, h2, h3⟩, fun ⟨u, v, h1, h2, h3⟩ => ⟨u, v, fun j hj => ⟨(h1 j hj).1.trans (h j hj).1.symm, (h1 j hj).2.trans (h j hj).2.symm⟩, h2, h3⟩⟩
theorem enL_all {n : Nat} {p bx : Nat → Int} (hp : copP n p) (hb : ∀ i, i < n → 0 ≤ bx i) : ∀ (f i : Nat) (u0 v0 : Nat → Nat), i + f = n → (enL p bx f i (PZ p u0 i) (PZ p v0 i)).Nodup ∧ ∀ z, z ∈ enL p bx f i (PZ p u0 i) (PZ p v0 i) ↔ enP n p bx i u0 v0 z := by
  intro f
  induction f with
  | zero =>
    intro i u0 v0 hi
    have hi : i = n := hi
    subst hi
    show [(PZ p u0 i, PZ p v0 i)].Nodup ∧ ∀ z, z ∈ [(PZ p u0 i, PZ p v0 i)] ↔ _
    refine ⟨by simp, fun z => ?_⟩
    rw [List.mem_singleton]
    refine ⟨fun h => ⟨u0, v0, fun j _ => ⟨rfl, rfl⟩, fun j h1 h2 => by omega, h⟩, fun ⟨u, v, h1, _, h3⟩ => ?_⟩
    rw [h3, PZ_congr i (fun j hj => (h1 j hj).1), PZ_congr i (fun j hj => (h1 j hj).2)]
  | succ f ih =>
    intro i u0 v0 hi
    have e3 : PZ p u0 i = PZ p (va_up u0 i 0) i := PZ_congr i (fun j hj => by simp only [va_up]; rw [if_neg (by omega)])
    have e4 : PZ p v0 i = PZ p (va_up v0 i 0) i := PZ_congr i (fun j hj => by simp only [va_up]; rw [if_neg (by omega)])
    have c0 : ∀ j, j < i → u0 j = va_up u0 i 0 j ∧ v0 j = va_up v0 i 0 j := fun j hj => by simp only [va_up]; rw [if_neg (by omega), if_neg (by omega)]; exact ⟨rfl, rfl⟩
    simp only [enP_congr (n := n) (p := p) (bx := bx) c0]
    rw [e3, e4]
    generalize hu : va_up u0 i 0 = u1
    generalize hv : va_up v0 i 0 = v1
    have hu1 : u1 i = 0 := by rw [← hu]; simp [va_up]
    have hv1 : v1 i = 0 := by rw [← hv]; simp [va_up]
    have J := enJ_all (bx := bx) hp (show i + 1 + f = n by omega) (u0 := u1) (v0 := v1) (fun s t => ih (i + 1) _ _ (by omega)) hu1 hv1 (bx i).toNat 0
    rw [show PZ p u1 i * p i ^ 0 = PZ p u1 i by simp, show PZ p v1 i * p i ^ 0 = PZ p v1 i by simp] at J
    show (enL p bx f (i + 1) (PZ p u1 i) (PZ p v1 i) ++ enJ (enL p bx f (i + 1)) (PZ p u1 i) (PZ p v1 i) (p i) (bx i).toNat (PZ p u1 i) (PZ p v1 i)).Nodup ∧ ∀ z, z ∈ enL p bx f (i + 1) (PZ p u1 i) (PZ p v1 i) ++ enJ (enL p bx f (i + 1)) (PZ p u1 i) (PZ p v1 i) (p i) (bx i).toNat (PZ p u1 i) (PZ p v1 i) ↔ _
    have hA : enL p bx f (i + 1) (PZ p u1 i) (PZ p v1 i) = enL p bx f (i + 1) (PZ p (va_up u1 i 0) (i + 1)) (PZ p (va_up v1 i 0) (i + 1)) := by rw [PZ_up, PZ_up]; simp
    have A := ih (i + 1) (va_up u1 i 0) (va_up v1 i 0) (by omega)
    rw [← hA] at A
    obtain ⟨n1, m1⟩ := A
    obtain ⟨n2, m2⟩ := J
    have b0 := hb i (by omega)
    refine ⟨?_, fun z => ?_⟩
    · rw [List.nodup_append]
      refine ⟨n1, n2, fun x hx y hy e => ?_⟩
      subst e
      obtain ⟨j, j1, j2, h | h⟩ := (m2 x).mp hy
      · have := enP_tag hp (by omega) ((m1 x).mp hx) h; omega
      · have := enP_tag hp (by omega) ((m1 x).mp hx) h; omega
    · rw [List.mem_append, m1, m2]
      refine ⟨fun h => ?_, fun h => ?_⟩
      · rcases h with h | ⟨j, j1, j2, h | h⟩
        · exact enP_up h (by omega) (by omega) (Or.inl rfl)
        · exact enP_up h (by omega) (by omega) (Or.inr rfl)
        · exact enP_up h (by omega) (by omega) (Or.inl rfl)
      · obtain ⟨u, v, h1, h2, h3⟩ := h
        have q := h2 i (by omega) (by omega)
        have go : ∀ s t : Nat, u i = s → v i = t → enP n p bx (i + 1) (va_up u1 i s) (va_up v1 i t) z := by
          intro s t hs ht
          refine ⟨u, v, fun j hj => ?_, fun j h4 h5 => h2 j (by omega) h5, h3⟩
          simp only [va_up]
          by_cases e : j = i
          · subst e; rw [if_pos rfl, if_pos rfl]; exact ⟨hs, ht⟩
          · rw [if_neg e, if_neg e]; exact h1 j (by omega)
        by_cases a1 : u i = 0
        · by_cases a2 : v i = 0
          · exact Or.inl (go 0 0 a1 a2)
          · exact Or.inr ⟨v i, by omega, by omega, Or.inr (go 0 (v i) a1 rfl)⟩
        · have a2 : v i = 0 := by omega
          exact Or.inr ⟨u i, by omega, by omega, Or.inl (go (u i) 0 rfl a2)⟩
