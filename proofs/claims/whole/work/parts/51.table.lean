/-! THE TABLE: sorted, without repeats; what is in it -/
def memT (T : TbZ) (a b g : Int) : Prop := ∃ i, i < T.1 ∧ T.2.1 i = a ∧ T.2.2.1 i = b ∧ T.2.2.2 i = g
def inT (T : TbZ) (a b : Int) : Prop := ∃ i, i < T.1 ∧ T.2.1 i = a ∧ T.2.2.1 i = b
theorem memT_in {T : TbZ} {a b g : Int} (h : memT T a b g) : inT T a b := by
  obtain ⟨i, h1, h2, h3, -⟩ := h
  exact ⟨i, h1, h2, h3⟩
theorem inT_mem {T : TbZ} {a b : Int} (h : inT T a b) : ∃ g, memT T a b g := by
  obtain ⟨i, h1, h2, h3⟩ := h
  exact ⟨_, i, h1, h2, h3, rfl⟩
theorem plT_of {T : TbZ} (hs : srtZ T) {i : Nat} (hi : i < T.1) : plT T (T.2.1 i) (T.2.2.1 i) T.1 = i := by
  refine plT_at T _ _ i (fun j hj => kLtB_iff.mpr (hs j i hj hi)) (fun j h1 h2 => ?_) T.1 (by omega) (Nat.le_refl _)
  cases hc : kLtB (T.2.1 j) (T.2.2.1 j) (T.2.1 i) (T.2.2.1 i) with
  | false => rfl
  | true =>
    rw [kLtB_iff] at hc
    by_cases e : j = i
    · subst e; unfold kLt at hc; omega
    · have := hs i j (by omega) h2
      unfold kLt at *; omega
/-- where it is in, it stands at its place -/
theorem inT_at {T : TbZ} (hs : srtZ T) {a b : Int} : inT T a b ↔ isAtT T (plT T a b T.1) a b := by
  refine ⟨fun ⟨i, h1, h2, h3⟩ => ?_, fun h => ⟨_, h.1, h.2.1, h.2.2⟩⟩
  have := plT_of hs h1
  rw [h2, h3] at this
  rw [this]
  exact ⟨h1, h2, h3⟩
def insX (T : TbZ) (a b g : Int) : TbZ := (T.1 + 1, insR (plT T a b T.1) T.1 a T.2.1, insR (plT T a b T.1) T.1 b T.2.2.1, insR (plT T a b T.1) T.1 g T.2.2.2)
theorem insX_mem {T : TbZ} {a b g a' b' g' : Int} : memT (insX T a b g) a' b' g' ↔ memT T a' b' g' ∨ (a' = a ∧ b' = b ∧ g' = g) := by
  have hle := plT_le T a b T.1
  unfold insX
  generalize plT T a b T.1 = t at hle ⊢
  refine ⟨fun ⟨i, h1, h2, h3, h4⟩ => ?_, fun h => ?_⟩
  · have h1 : i < T.1 + 1 := h1
    have h2 : insR t T.1 a T.2.1 i = a' := h2
    have h3 : insR t T.1 b T.2.2.1 i = b' := h3
    have h4 : insR t T.1 g T.2.2.2 i = g' := h4
    rcases Nat.lt_trichotomy i t with q | q | q
    · rw [insR_lt q] at h2 h3 h4
      exact Or.inl ⟨i, by omega, h2, h3, h4⟩
    · subst q
      rw [insR_eq] at h2 h3 h4
      exact Or.inr ⟨h2.symm, h3.symm, h4.symm⟩
    · rw [insR_gt q (by omega)] at h2 h3 h4
      exact Or.inl ⟨i - 1, by omega, h2, h3, h4⟩
  · rcases h with ⟨i, h1, h2, h3, h4⟩ | ⟨rfl, rfl, rfl⟩
    · by_cases q : i < t
      · refine ⟨i, by show i < T.1 + 1; omega, ?_, ?_, ?_⟩
        · show insR t T.1 a T.2.1 i = a'; rw [insR_lt q]; exact h2
        · show insR t T.1 b T.2.2.1 i = b'; rw [insR_lt q]; exact h3
        · show insR t T.1 g T.2.2.2 i = g'; rw [insR_lt q]; exact h4
      · refine ⟨i + 1, by show i + 1 < T.1 + 1; omega, ?_, ?_, ?_⟩
        · show insR t T.1 a T.2.1 (i + 1) = a'; rw [insR_gt (by omega) (by omega)]; exact h2
        · show insR t T.1 b T.2.2.1 (i + 1) = b'; rw [insR_gt (by omega) (by omega)]; exact h3
        · show insR t T.1 g T.2.2.2 (i + 1) = g'; rw [insR_gt (by omega) (by omega)]; exact h4
    · refine ⟨t, by show t < T.1 + 1; omega, insR_eq, insR_eq, insR_eq⟩
theorem insX_in {T : TbZ} {a b g a' b' : Int} : inT (insX T a b g) a' b' ↔ inT T a' b' ∨ (a' = a ∧ b' = b) := by
  refine ⟨fun h => ?_, fun h => ?_⟩
  · obtain ⟨g', h⟩ := inT_mem h
    rcases insX_mem.mp h with h | h
    · exact Or.inl (memT_in h)
    · exact Or.inr ⟨h.1, h.2.1⟩
  · rcases h with h | ⟨rfl, rfl⟩
    · obtain ⟨g', h⟩ := inT_mem h
      exact memT_in (insX_mem.mpr (Or.inl h))
    · exact memT_in (insX_mem.mpr (Or.inr ⟨rfl, rfl, rfl⟩))
theorem insX_srt {T : TbZ} {a b g : Int} (hs : srtZ T) (hc : ¬ inT T a b) : srtZ (insX T a b g) := by
  have hle := plT_le T a b T.1
  have hin := plT_in (a := a) (b := b) hs T.1 (Nat.le_refl _)
  unfold insX
  generalize plT T a b T.1 = t at hle hin ⊢
  have lo : ∀ i, i < t → kLt (T.2.1 i) (T.2.2.1 i) a b := fun i hi => kLtB_iff.mp ((hin i (by omega)).mpr hi)
  have up : ∀ i, t ≤ i → i < T.1 → kLt a b (T.2.1 i) (T.2.2.1 i) := by
    intro i h1 h2
    have n1 : ¬ kLt (T.2.1 i) (T.2.2.1 i) a b := fun q => by have := (hin i h2).mp (kLtB_iff.mpr q); omega
    have : ¬ (T.2.1 i = a ∧ T.2.2.1 i = b) := fun q => hc ⟨i, h2, q⟩
    unfold kLt at *; omega
  intro i j hij hj
  have hj : j < T.1 + 1 := hj
  show kLt (insR t T.1 a T.2.1 i) (insR t T.1 b T.2.2.1 i) (insR t T.1 a T.2.1 j) (insR t T.1 b T.2.2.1 j)
  rcases Nat.lt_trichotomy i t with h1 | h1 | h1
  · rw [insR_lt h1, insR_lt h1]
    rcases Nat.lt_trichotomy j t with h2 | h2 | h2
    · rw [insR_lt h2, insR_lt h2]; exact hs i j hij (by omega)
    · subst h2; rw [insR_eq, insR_eq]; exact lo i h1
    · rw [insR_gt h2 (by omega), insR_gt h2 (by omega)]; exact hs i (j - 1) (by omega) (by omega)
  · subst h1; rw [insR_eq, insR_eq, insR_gt hij (by omega), insR_gt hij (by omega)]; exact up (j - 1) (by omega) (by omega)
  · rw [insR_gt h1 (by omega), insR_gt h1 (by omega), insR_gt (by omega) (by omega), insR_gt (by omega) (by omega)]; exact hs (i - 1) (j - 1) (by omega) (by omega)
theorem insT_new {T : TbZ} {a b g : Int} (hs : srtZ T) (h : T.1 < 264) (hc : ¬ inT T a b) : insT T a b g = insX T a b g := by
  unfold insT
  rw [if_neg]
  · rfl
  · rintro (q | q)
    · omega
    · exact hc ((inT_at hs).mpr q)
theorem insT_old {T : TbZ} {a b g : Int} (hs : srtZ T) (hc : inT T a b) : insT T a b g = T := by
  unfold insT
  exact if_pos (Or.inr ((inT_at hs).mp hc))
/-- a sorted table within another: no more rows -/
theorem srt_sub {U T : TbZ} (hU : srtZ U) (hT : srtZ T) (h : ∀ i, i < U.1 → inT T (U.2.1 i) (U.2.2.1 i)) : U.1 ≤ T.1 := by
  have key : ∀ m, m ≤ U.1 → ∃ f : Nat → Nat, (∀ i, i < m → f i < T.1 ∧ T.2.1 (f i) = U.2.1 i ∧ T.2.2.1 (f i) = U.2.2.1 i) ∧ ∀ i, i < m → i ≤ f i := by
    intro m
    induction m with
    | zero => intro _; exact ⟨fun _ => 0, fun i hi => by omega, fun i hi => by omega⟩
    | succ m ih =>
      intro hm
      obtain ⟨f, f1, f2⟩ := ih (by omega)
      obtain ⟨t, t1, t2, t3⟩ := h m (by omega)
      refine ⟨va_up f m t, fun i hi => ?_, fun i hi => ?_⟩
      · by_cases e : i = m
        · subst e; simp only [va_up, if_true]; exact ⟨t1, t2, t3⟩
        · simp only [va_up, if_neg e]; exact f1 i (by omega)
      · by_cases e : i = m
        · subst e; simp only [va_up, if_true]
          by_cases e0 : i = 0
          · omega
          · have q := f1 (i - 1) (by omega)
            have q2 := f2 (i - 1) (by omega)
            have q3 := hU (i - 1) i (by omega) (by omega)
            rw [← q.2.1, ← q.2.2, ← t2, ← t3] at q3
            rcases Nat.lt_trichotomy (f (i - 1)) t with w | w | w
            · omega
            · rw [w] at q3; unfold kLt at q3; omega
            · have := hT t (f (i - 1)) w q.1
              unfold kLt at *; omega
        · simp only [va_up, if_neg e]; exact f2 i (by omega)
  by_cases e : U.1 = 0
  · omega
  · obtain ⟨f, f1, f2⟩ := key U.1 (Nat.le_refl _)
    have h1 := f1 (U.1 - 1) (by omega)
    have h2 := f2 (U.1 - 1) (by omega)
    omega
/-- two sorted tables of the same rows are the same -/
theorem srt_same {U T : TbZ} (hU : srtZ U) (hT : srtZ T) (h : ∀ a b, inT U a b ↔ inT T a b) : U.1 = T.1 ∧ ∀ i, i < T.1 → U.2.1 i = T.2.1 i ∧ U.2.2.1 i = T.2.2.1 i := by
  have e1 := srt_sub hU hT (fun i hi => (h _ _).mp ⟨i, hi, rfl, rfl⟩)
  have e2 := srt_sub hT hU (fun i hi => (h _ _).mpr ⟨i, hi, rfl, rfl⟩)
  have e : U.1 = T.1 := by omega
  have cnt : ∀ a b n, n ≤ T.1 → (∀ i, i < n → U.2.1 i = T.2.1 i ∧ U.2.2.1 i = T.2.2.1 i) → plT U a b n = plT T a b n := by
    intro a b n
    induction n with
    | zero => intro _ _; rfl
    | succ n ih =>
      intro hn hq
      unfold plT
      rw [ih (by omega) (fun i hi => hq i (by omega)), (hq n (by omega)).1, (hq n (by omega)).2]
  refine ⟨e, fun i => ?_⟩
  induction i using Nat.strongRecOn with
  | ind i ih =>
    intro hi
    -- row i of U stands at some t of T, and row i of T at some t' of U: neither is below i
    obtain ⟨t, t1, t2, t3⟩ := (h _ _).mp ⟨i, (by omega : i < U.1), rfl, rfl⟩
    obtain ⟨t', s1, s2, s3⟩ := (h _ _).mpr ⟨i, hi, rfl, rfl⟩
    have a1 : i ≤ t := by
      refine Nat.le_of_not_lt fun q => ?_
      have q1 := ih t q t1
      have q2 := hU t i q (by omega)
      rw [q1.1, q1.2, t2, t3] at q2
      unfold kLt at q2; omega
    have a2 : i ≤ t' := by
      refine Nat.le_of_not_lt fun q => ?_
      have q1 := ih t' q (by omega)
      have q2 := hT t' i q hi
      rw [← q1.1, ← q1.2, s2, s3] at q2
      unfold kLt at q2; omega
    by_cases b1 : t = i
    · subst b1; exact ⟨t2.symm, t3.symm⟩
    · have q1 := hT i t (by omega) t1
      rw [t2, t3] at q1
      by_cases b2 : t' = i
      · subst b2; exact ⟨s2, s3⟩
      · have q2 := hU i t' (by omega) s1
        rw [s2, s3] at q2
        unfold kLt at q1 q2; omega
-- six forms
theorem six_all {a b c g : Int} : ∀ (m k : Nat) (T : TbZ), srtZ T → T.1 + m ≤ 264 → srtZ (sixT a b c g m k T) ∧ (sixT a b c g m k T).1 ≤ T.1 + m ∧ (∀ a' b' g', memT (sixT a b c g m k T) a' b' g' → memT T a' b' g' ∨ (g' = g ∧ ∃ j, k ≤ j ∧ j < k + m ∧ a' = formA a b c j ∧ b' = formB a b c j)) ∧ (∀ a' b' g', memT T a' b' g' → memT (sixT a b c g m k T) a' b' g') ∧ ∀ j, k ≤ j → j < k + m → inT (sixT a b c g m k T) (formA a b c j) (formB a b c j)
  | 0, k, T, hs, h => ⟨hs, by show T.1 ≤ T.1 + 0; omega, fun a' b' g' q => Or.inl q, fun a' b' g' q => q, fun j h1 h2 => by omega⟩
  | m + 1, k, T, hs, h => by
    show srtZ (sixT a b c g m (k + 1) (insT T (formA a b c k) (formB a b c k) g)) ∧ (sixT a b c g m (k + 1) (insT T (formA a b c k) (formB a b c k) g)).1 ≤ T.1 + (m + 1) ∧ (∀ a' b' g', memT (sixT a b c g m (k + 1) (insT T (formA a b c k) (formB a b c k) g)) a' b' g' → _) ∧ (∀ a' b' g', memT T a' b' g' → memT (sixT a b c g m (k + 1) (insT T (formA a b c k) (formB a b c k) g)) a' b' g') ∧ ∀ j, k ≤ j → j < k + (m + 1) → inT (sixT a b c g m (k + 1) (insT T (formA a b c k) (formB a b c k) g)) (formA a b c j) (formB a b c j)
    have N : ∃ T', insT T (formA a b c k) (formB a b c k) g = T' ∧ srtZ T' ∧ T'.1 ≤ T.1 + 1 ∧ (∀ a' b' g', memT T' a' b' g' → memT T a' b' g' ∨ (g' = g ∧ a' = formA a b c k ∧ b' = formB a b c k)) ∧ (∀ a' b' g', memT T a' b' g' → memT T' a' b' g') ∧ inT T' (formA a b c k) (formB a b c k) := by
      by_cases e : inT T (formA a b c k) (formB a b c k)
      · exact ⟨T, insT_old hs e, hs, by omega, fun a' b' g' q => Or.inl q, fun a' b' g' q => q, e⟩
      · refine ⟨_, insT_new hs (by omega) e, insX_srt hs e, Nat.le_refl _, fun a' b' g' q => ?_, fun a' b' g' q => insX_mem.mpr (Or.inl q), insX_in.mpr (Or.inr ⟨rfl, rfl⟩)⟩
        rcases insX_mem.mp q with q | ⟨q1, q2, q3⟩
        · exact Or.inl q
        · exact Or.inr ⟨q3, q1, q2⟩
    obtain ⟨T', e, n1, n2, n3, n4, n5⟩ := N
    rw [e]
    obtain ⟨i1, i2, i3, i4, i5⟩ := six_all (a := a) (b := b) (c := c) (g := g) m (k + 1) T' n1 (by omega)
    refine ⟨i1, by omega, fun a' b' g' q => ?_, fun a' b' g' q => i4 _ _ _ (n4 _ _ _ q), fun j h1 h2 => ?_⟩
    · rcases i3 _ _ _ q with q | ⟨q1, j, j1, j2, j3⟩
      · rcases n3 _ _ _ q with q | ⟨q1, q2, q3⟩
        · exact Or.inl q
        · exact Or.inr ⟨q1, k, by omega, by omega, q2, q3⟩
      · exact Or.inr ⟨q1, j, by omega, by omega, j3⟩
    · by_cases ej : j = k
      · subst ej
        obtain ⟨g', q⟩ := inT_mem n5
        exact memT_in (i4 _ _ _ q)
      · exact i5 j (by omega) (by omega)
-- the fold
def goodZ (n : Nat) (p bx : Nat → Int) (z : Int × Int) : Bool := decide (2 * z.1 ≤ z.2 ∧ holdZ p bx n 0 (z.2 - z.1) = 1)
def invT (s : StZ) (L : List (Int × Int)) : Prop := srtZ s.1 ∧ s.2 = L.length ∧ s.1.1 ≤ 6 * s.2 ∧ (∀ a b g, memT s.1 a b g → okAB a b ∧ ∃ k : Nat, g = k ∧ L[k]? = some (mn3 a b, mx3 a b)) ∧ ∀ z ∈ L, ∀ a b, okAB a b → mn3 a b = z.1 → mx3 a b = z.2 → inT s.1 a b
theorem try_step {n : Nat} {p bx : Nat → Int} {s : StZ} {L : List (Int × Int)} {z : Int × Int} (I : invT s L) (hz : 0 < z.1) (hL : (L ++ [z].filter (goodZ n p bx)).length ≤ 44) : invT (tryF n p bx s z) (L ++ [z].filter (goodZ n p bx)) := by
  obtain ⟨i1, i2, i3, i4, i5⟩ := I
  show invT (tryT n p bx s z.1 z.2) _
  unfold tryT
  by_cases g : goodZ n p bx z = true
  · have e : [z].filter (goodZ n p bx) = [z] := by simp [g]
    rw [e] at hL ⊢
    rw [List.length_append] at hL
    have hL : L.length + 1 ≤ 44 := hL
    unfold goodZ at g
    have g := of_decide_eq_true g
    rw [if_neg (by rintro (q | q | q); omega; exact q g.2; omega)]
    obtain ⟨s1, s2, s3, s4, s5⟩ := six_all (a := z.1) (b := z.2) (c := z.2 - z.1) (g := s.2) 6 0 s.1 i1 (by omega)
    refine ⟨s1, ?_, ?_, fun a b g' q => ?_, fun w hw a b o e1 e2 => ?_⟩
    · show s.2 + 1 = _; rw [List.length_append, i2]; rfl
    · show (sixT z.1 z.2 (z.2 - z.1) (s.2 : Nat) 6 0 s.1).1 ≤ 6 * (s.2 + 1); omega
    · rcases s3 a b g' q with q | ⟨q1, j, j1, j2, q2, q3⟩
      · obtain ⟨o, k, k1, k2⟩ := i4 a b g' q
        have hk : k < L.length := by
          refine Nat.lt_of_not_le fun h9 => ?_
          rw [List.getElem?_eq_none h9] at k2; cases k2
        exact ⟨o, k, k1, by rw [List.getElem?_append_left hk]; exact k2⟩
      · have c := can_form hz g.1 (k := j) (by omega)
        rw [q2, q3]
        refine ⟨c.1, s.2, q1, ?_⟩
        rw [List.getElem?_append_right (by omega), i2, Nat.sub_self, c.2.1, c.2.2]
        rfl
    · rcases List.mem_append.mp hw with hw | hw
      · obtain ⟨g', q⟩ := inT_mem (i5 w hw a b o e1 e2)
        exact memT_in (s4 _ _ _ q)
      · rw [List.mem_singleton] at hw
        subst hw
        obtain ⟨k, k1, k2, k3⟩ := form_can o
        rw [e1, e2] at k2 k3
        have := s5 k (by omega) (by omega)
        rw [k2, k3] at this
        exact this
  · have e : [z].filter (goodZ n p bx) = [] := by simp [g]
    rw [e, List.append_nil]
    unfold goodZ at g
    rw [decide_eq_true_iff] at g
    rw [if_pos (by
      by_cases q : z.2 < 2 * z.1
      · exact Or.inl q
      · exact Or.inr (Or.inl fun q2 => g ⟨by omega, q2⟩))]
    exact ⟨i1, i2, i3, i4, i5⟩
theorem try_fold {n : Nat} {p bx : Nat → Int} : ∀ (Z : List (Int × Int)) (s : StZ) (L : List (Int × Int)), invT s L → (∀ z ∈ Z, 0 < z.1) → (L ++ Z.filter (goodZ n p bx)).length ≤ 44 → invT (Z.foldl (tryF n p bx) s) (L ++ Z.filter (goodZ n p bx))
  | [], s, L, I, _, _ => by simpa using I
  | z :: Z, s, L, I, hz, hL => by
    have e : L ++ (z :: Z).filter (goodZ n p bx) = (L ++ [z].filter (goodZ n p bx)) ++ Z.filter (goodZ n p bx) := by
      rw [List.append_assoc, ← List.filter_append]; rfl
    rw [e] at hL ⊢
    refine try_fold Z _ _ (try_step I (hz z (by simp)) ?_) (fun w hw => hz w (by simp [hw])) hL
    rw [List.length_append] at hL
    omega
