/-! GROUPS: numbered by their first answers -/
def canT (T : TbZ) (i : Nat) : Int × Int := (mn3 (T.2.1 i) (T.2.2.1 i), mx3 (T.2.1 i) (T.2.2.1 i))
def fst1 (c : Nat → Int × Int) (v : Int × Int) : Nat → Nat → Nat
  | 0, i => i
  | m + 1, i => if c i = v then i else fst1 c v m (i + 1)
theorem fst1_all {c : Nat → Int × Int} {v : Int × Int} : ∀ m i, c (i + m) = v → i ≤ fst1 c v m i ∧ fst1 c v m i ≤ i + m ∧ c (fst1 c v m i) = v ∧ ∀ j, i ≤ j → j < fst1 c v m i → ¬ c j = v
  | 0, i, h => ⟨Nat.le_refl _, Nat.le_refl _, h, fun j h1 h2 => absurd h2 (Nat.not_lt.mpr h1)⟩
  | m + 1, i, h => by
    unfold fst1
    by_cases e : c i = v
    · rw [if_pos e]
      exact ⟨by omega, by omega, e, fun j h1 h2 => by omega⟩
    · rw [if_neg e]
      have h' : c (i + 1 + m) = v := by rw [← h]; congr 1; omega
      have h1 := fst1_all m (i + 1) h'
      refine ⟨by omega, by omega, h1.2.2.1, fun j h2 h3 => ?_⟩
      by_cases ej : j = i
      · subst ej; exact e
      · exact h1.2.2.2 j (by omega) h3
def fsT (T : TbZ) (k : Nat) : Nat := fst1 (canT T) (canT T k) k 0
theorem fsT_all (T : TbZ) (k : Nat) : fsT T k ≤ k ∧ canT T (fsT T k) = canT T k ∧ ∀ j, j < fsT T k → ¬ canT T j = canT T k := by
  have h := fst1_all (c := canT T) (v := canT T k) k 0 (by rw [Nat.zero_add])
  exact ⟨by have := h.2.1; unfold fsT; omega, h.2.2.1, fun j hj => h.2.2.2 j (by omega) hj⟩
theorem fsT_un {T : TbZ} {k f : Nat} (h1 : canT T f = canT T k) (h2 : ∀ j, j < f → ¬ canT T j = canT T k) : fsT T k = f := by
  have h := fsT_all T k
  rcases Nat.lt_trichotomy (fsT T k) f with q | q | q
  · exact absurd h.2.1 (h2 _ q)
  · exact q
  · exact absurd h1 (h.2.2 _ q)
theorem fsT_eq {T : TbZ} {i j : Nat} (h : canT T i = canT T j) : fsT T i = fsT T j := by
  have q := fsT_all T j
  exact fsT_un (by rw [q.2.1, h]) (fun k hk => by rw [h]; exact q.2.2 k hk)
def cF (T : TbZ) : Nat → Nat
  | 0 => 0
  | j + 1 => cF T j + if fsT T j = j then 1 else 0
theorem cF_le (T : TbZ) : ∀ j, cF T j ≤ j
  | 0 => Nat.le_refl 0
  | j + 1 => by have := cF_le T j; unfold cF; split <;> omega
theorem cF_mono (T : TbZ) {i : Nat} : ∀ {j : Nat}, i ≤ j → cF T i ≤ cF T j := by
  intro j
  induction j with
  | zero => intro h; have : i = 0 := by omega
            subst this; exact Nat.le_refl _
  | succ j ih =>
    intro h
    by_cases e : i = j + 1
    · subst e; exact Nat.le_refl _
    · have := ih (by omega)
      show cF T i ≤ cF T j + if fsT T j = j then 1 else 0
      omega
theorem cF_on (T : TbZ) {g : Nat} : ∀ {N : Nat}, g < cF T N → ∃ j, j < N ∧ fsT T j = j ∧ cF T j = g := by
  intro N
  induction N with
  | zero => intro h; exact absurd h (Nat.not_lt_zero _)
  | succ N ih =>
    intro h
    unfold cF at h
    by_cases q : g < cF T N
    · obtain ⟨j, j1, j2⟩ := ih q
      exact ⟨j, by omega, j2⟩
    · by_cases e : fsT T N = N
      · rw [if_pos e] at h
        exact ⟨N, by omega, e, by omega⟩
      · rw [if_neg e] at h
        omega
/-- a number for each kind -/
def sameG (T : TbZ) (G : Nat → Int) (N : Nat) : Prop := ∀ i j, i < N → j < N → ((G i).toNat = (G j).toNat ↔ canT T i = canT T j)
theorem newR_all {T : TbZ} {G : Nat → Int} {N : Nat} (hG : sameG T G N) : ∀ i, i ≤ N → (newR G i).2 = cF T i ∧ (∀ j, j < i → (newR G i).1 (G j).toNat = (cF T (fsT T j) : Nat)) ∧ ∀ g, (∀ j, j < i → (G j).toNat ≠ g) → (newR G i).1 g = -1
  | 0, _ => ⟨rfl, fun j hj => absurd hj (Nat.not_lt_zero j), fun g _ => rfl⟩
  | i + 1, hi => by
    obtain ⟨h1, h2, h3⟩ := newR_all hG i (by omega)
    have f := fsT_all T i
    have le : newR G (i + 1) = if (newR G i).1 (G i).toNat < 0 then (va_up (newR G i).1 (G i).toNat (newR G i).2, (newR G i).2 + 1) else newR G i := rfl
    have lc : cF T (i + 1) = cF T i + if fsT T i = i then 1 else 0 := rfl
    by_cases e : fsT T i = i
    · have no : ∀ j, j < i → (G j).toNat ≠ (G i).toNat := fun j hj q => f.2.2 j (by omega) ((hG j i (by omega) (by omega)).mp q)
      rw [h3 _ no, if_pos (by decide)] at le
      rw [le, lc, if_pos e]
      refine ⟨by show (newR G i).2 + 1 = _; rw [h1], fun j hj => ?_, fun g hg => ?_⟩
      · show va_up (newR G i).1 (G i).toNat (newR G i).2 (G j).toNat = _
        by_cases ej : j = i
        · subst ej; simp only [va_up, if_true]; rw [e, h1]
        · simp only [va_up]; rw [if_neg (no j (by omega))]; exact h2 j (by omega)
      · show va_up (newR G i).1 (G i).toNat (newR G i).2 g = _
        simp only [va_up]
        rw [if_neg (fun q => hg i (by omega) q.symm)]
        exact h3 g (fun j hj => hg j (by omega))
    · have q : (G (fsT T i)).toNat = (G i).toNat := (hG _ i (by omega) (by omega)).mpr f.2.1
      have v := h2 (fsT T i) (by omega)
      rw [q, fsT_eq f.2.1] at v
      rw [v, if_neg (by omega)] at le
      rw [le, lc, if_neg e]
      refine ⟨h1, fun j hj => ?_, fun g hg => h3 g (fun j hj => hg j (by omega))⟩
      by_cases ej : j = i
      · subst ej; exact v
      · exact h2 j (by omega)
def seen (G : Nat → Int) : Nat → Nat → Bool
  | 0 => fun _ => false
  | i + 1 => va_up (seen G i) (G i).toNat true
theorem seen_iff {G : Nat → Int} {v : Nat} : ∀ i, seen G i v = true ↔ ∃ j, j < i ∧ (G j).toNat = v
  | 0 => ⟨fun h => absurd h (by show ¬ false = true; decide), fun ⟨j, hj, _⟩ => absurd hj (Nat.not_lt_zero j)⟩
  | i + 1 => by
    show va_up (seen G i) (G i).toNat true v = true ↔ _
    by_cases e : v = (G i).toNat
    · subst e
      simp only [va_up, if_true, true_iff]
      exact ⟨i, by omega, rfl⟩
    · simp only [va_up, if_neg e]
      rw [seen_iff i]
      refine ⟨fun ⟨j, h1, h2⟩ => ⟨j, by omega, h2⟩, fun ⟨j, h1, h2⟩ => ⟨j, ?_, h2⟩⟩
      by_cases ej : j = i
      · subst ej; exact absurd h2.symm e
      · omega
theorem cntB_all {m : Nat → Bool} : ∀ q, (∀ r, r < q → m r = true) → cntB m q = q
  | 0, _ => rfl
  | q + 1, h => by unfold cntB; rw [cntB_all q (fun r hr => h r (by omega)), h q (by omega)]; rfl
theorem seen_cnt {T : TbZ} {G : Nat → Int} {N gc : Nat} (hG : sameG T G N) (hb : ∀ i, i < N → 0 ≤ G i ∧ G i < gc) : ∀ i, i ≤ N → cntB (seen G i) gc = cF T i
  | 0, _ => cntB_no gc
  | i + 1, hi => by
    have ih := seen_cnt hG hb i (by omega)
    have f := fsT_all T i
    have b := hb i (by omega)
    show cntB (va_up (seen G i) (G i).toNat true) gc = cF T i + if fsT T i = i then 1 else 0
    by_cases e : fsT T i = i
    · have no : seen G i (G i).toNat = false := by
        cases hs : seen G i (G i).toNat with
        | false => rfl
        | true =>
          obtain ⟨j, j1, j2⟩ := (seen_iff i).mp hs
          exact absurd ((hG j i (by omega) (by omega)).mp j2) (f.2.2 j (by omega))
      rw [cntB_up _ _ no, ih, if_pos e, if_pos (by omega)]
    · have yes : seen G i (G i).toNat = true := (seen_iff i).mpr ⟨fsT T i, by omega, (hG _ i (by omega) (by omega)).mpr f.2.1⟩
      rw [if_neg e, Nat.add_zero, ← ih]
      refine cntB_congr gc (fun r _ => ?_)
      by_cases er : r = (G i).toNat
      · subst er; simp only [va_up, if_true]; exact yes.symm
      · simp only [va_up, if_neg er]
theorem grp_all {n : Nat} {p bx : Nat → Int} (kB : okB n p bx) : (∀ k, k < (ansT n p bx).1 → (ansT n p bx).2.2.2 k = (cF (ansT n p bx) (fsT (ansT n p bx) k) : Nat)) ∧ (fillT n p bx).2 = cF (ansT n p bx) (ansT n p bx).1 := by
  obtain ⟨L, I, nd, -, hL⟩ := fill_all kB
  obtain ⟨i1, i2, i3, i4, i5⟩ := I
  have at4 : ∀ i, i < (fillT n p bx).1.1 → ∃ k : Nat, (fillT n p bx).1.2.2.2 i = k ∧ L[k]? = some (canT (ansT n p bx) i) := fun i hi => (i4 _ _ _ ⟨i, hi, rfl, rfl, rfl⟩).2
  have lt : ∀ {k : Nat} {v : Int × Int}, L[k]? = some v → k < L.length := by
    intro k v h
    refine Nat.lt_of_not_le fun q => ?_
    rw [List.getElem?_eq_none q] at h; cases h
  have hG : sameG (ansT n p bx) (fillT n p bx).1.2.2.2 (fillT n p bx).1.1 := by
    intro i j hi hj
    obtain ⟨k, k1, k2⟩ := at4 i hi
    obtain ⟨m, m1, m2⟩ := at4 j hj
    rw [k1, m1, Int.toNat_natCast, Int.toNat_natCast]
    refine ⟨fun e => ?_, fun e => ?_⟩
    · subst e
      rw [k2] at m2
      exact Option.some.inj m2
    · rw [← List.getElem?_inj (lt k2) nd, k2, m2, e]
  refine ⟨fun k hk => ?_, ?_⟩
  · have hk : k < (fillT n p bx).1.1 := hk
    have := (newR_all hG (k + 1) (by omega)).2.1 k (by omega)
    exact this
  · have c := seen_cnt (gc := (fillT n p bx).2) hG (fun i hi => by
      obtain ⟨k, k1, k2⟩ := at4 i hi
      have := lt k2
      omega) (fillT n p bx).1.1 (Nat.le_refl _)
    rw [cntB_all] at c
    · exact c
    · intro r hr
      rw [seen_iff]
      have hr2 : r < L.length := by omega
      have hm : L[r]? = some L[r] := List.getElem?_eq_getElem hr2
      have hm2 := (hL _ _).mp (List.mem_of_getElem? hm)
      have cf := can_form hm2.1 hm2.2.1 (k := 0) (by omega)
      obtain ⟨j, j1, j2, j3⟩ := i5 _ (List.mem_of_getElem? hm) _ _ cf.1 cf.2.1 cf.2.2
      refine ⟨j, j1, ?_⟩
      obtain ⟨k, k1, k2⟩ := at4 j j1
      rw [k1, Int.toNat_natCast]
      refine ((List.getElem?_inj (lt k2) nd).mp ?_)
      rw [k2, hm]
      congr 1
      show (mn3 ((fillT n p bx).1.2.1 j) ((fillT n p bx).1.2.2.1 j), mx3 ((fillT n p bx).1.2.1 j) ((fillT n p bx).1.2.2.1 j)) = _
      rw [j2, j3, cf.2.1, cf.2.2]
      rfl
