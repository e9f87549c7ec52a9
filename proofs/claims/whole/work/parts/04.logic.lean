/-! THE LOGIC: a world of fixed shape (objects and arrays by small numbers), its ints and longs as two functions; 'wp' = from this place of the method the machine comes to its end with Qc; a rule an instruction -/
abbrev sw_cl : List vw_C := [(RX0, TX0, 7), (RX1, TX1, 3), (RX2, TX2, 2), (RX3, TX3, 3), (RX4, TX4, 2), (RX5, TX5, 4), (RX6, TX6, 2), (RX7, TX7, 2), (RX8, TX8, 3), (RX9, TX9, 3), (RX10, TX10, 2), (RX11, TX11, 15), (RX12, TX12, 34)]
def sw_ty (ci : Nat) : Nat → FieldType := match ci with
  | 0 => tyX0 | 1 => tyX1 | 2 => tyX2 | 3 => tyX3 | 4 => tyX4 | 5 => tyX5 | 6 => tyX6 | 7 => tyX7 | 8 => tyX8 | 9 => tyX9 | 10 => tyX10 | 11 => tyX11 | _ => tyX12
def sw_nf (ci : Nat) : Nat := match ci with
  | 0 => 7 | 1 => 3 | 2 => 2 | 3 => 3 | 4 => 2 | 5 => 4 | 6 => 2 | 7 => 2 | 8 => 3 | 9 => 3 | 10 => 2 | 11 => 15 | _ => 34
def sw_big : List Cond := lw_tbl.filter goodWord
theorem sw_big_in {w : Cond} (h : w ∈ lw_tbl) (g : goodWord w = true) : w ∈ sw_big := List.mem_filter.mpr ⟨h, g⟩
theorem sw_big_good {w : Cond} (h : w ∈ sw_big) : (w.onTables && w.keeps) = true ∨ ∃ ty, w = .arrayClass ty := good_of_word (List.mem_filter.mp h).2
/-- the ints and the longs: by cell and place -/
abbrev sw_H : Type := (Nat → Nat → Int32) × (Nat → Nat → Int64)
/-- the shape: how many cells; an object of a class, or an array (0 int, 1 long, 2 boolean, 3 Unit, 4 Modulus, 5 int[], 6 long[]) of a length; the references -/
abbrev sw_W : Type := Nat × (Nat → Nat ⊕ (Nat × Nat)) × (Nat → Nat → Nat)
/-- the machine's own numbers: class, slot, array class, address -/
abbrev sw_X : Type := (Nat → ClassId) × (Nat → Nat → Nat) × (Nat → ClassId) × (Nat → Nat)
/-- a method: name, bytes, locals, type -/
abbrev sw_M : Type := MethodName × ByteArray × Nat × Option FieldType
def sw_cv (σ : Nat → Nat) : Value → Value
  | .ref a => .ref (σ a)
  | .int x => .int x
  | .long x => .long x
  | .float x => .float x
  | .double x => .double x
  | .null => .null
  | .retAddr x => .retAddr x
theorem sw_cv_cat (σ : Nat → Nat) (v : Value) : (sw_cv σ v).category = v.category := by cases v <;> rfl
def sw_v (σ : Nat → Nat) (ty : FieldType) (i : Int32) (j : Int64) (r : Nat) : Value := match ty with
  | .int => .int i
  | .boolean => .int i
  | .long => .long j
  | _ => .ref (σ r)
def sw_fs (w : sw_W) (X : sw_X) (h : sw_H) (a ci : Nat) : List Value := (List.range (sw_nf ci)).map fun k => sw_v X.2.2.2 (sw_ty ci k) (h.1 a k) (h.2 a k) (w.2.2 a k)
def sw_ar (w : sw_W) (X : sw_X) (h : sw_H) (a t : Nat) : (Nat → Int32) ⊕ (Nat → Int64) ⊕ (Nat → UInt32) ⊕ (Nat → UInt64) ⊕ (Nat → Option Nat) := match t with
  | 0 => .inl (h.1 a)
  | 1 => .inr (.inl (h.2 a))
  | 2 => .inl (h.1 a)
  | _ => .inr (.inr (.inr (.inr fun i => some (X.2.2.2 (w.2.2 a i)))))
def sw_e (w : sw_W) (X : sw_X) (h : sw_H) (a : Nat) : va_E := match w.2.1 a with
  | .inl ci => .inr (ci, sw_fs w X h a ci)
  | .inr q => .inl (X.2.2.1 q.1, q.2, sw_ar w X h a q.1)
def sw_ws (w : sw_W) (X : sw_X) (h : sw_H) : va_W := (List.range w.1).map fun a => (X.2.2.2 a, sw_e w X h a)
def sw_A (w : sw_W) (X : sw_X) : Nat → Prop := fun q => ∃ a, a < w.1 ∧ q = X.2.2.2 a
def sw_inj (w : sw_W) (X : sw_X) : Prop := ∀ a b, a < w.1 → b < w.1 → X.2.2.2 a = X.2.2.2 b → a = b
def sw_ts (X : sw_X) : List (ClassId × FieldType) := [(X.2.2.1 0, .int), (X.2.2.1 1, .long), (X.2.2.1 2, .boolean), (X.2.2.1 3, .object RX10), (X.2.2.1 4, .object RX5), (X.2.2.1 5, .array .int), (X.2.2.1 6, .array .long)]
def sw_o (w : sw_W) (a ci : Nat) : Prop := a < w.1 ∧ w.2.1 a = .inl ci
def sw_r (w : sw_W) (a t n : Nat) : Prop := a < w.1 ∧ w.2.1 a = .inr (t, n)
theorem sw_at {w : sw_W} {X : sw_X} {h : sw_H} {a : Nat} (ha : a < w.1) : (sw_ws w X h)[a]? = some (X.2.2.2 a, sw_e w X h a) := by
  simp [sw_ws, List.getElem?_map, List.getElem?_range ha]
theorem sw_out {w : sw_W} {X : sw_X} {h : sw_H} {a : Nat} (ha : ¬ a < w.1) : (sw_ws w X h)[a]? = none := by
  simp [sw_ws]; omega
theorem sw_eO {w : sw_W} {X : sw_X} {h : sw_H} {a ci : Nat} (ho : sw_o w a ci) : sw_e w X h a = .inr (ci, sw_fs w X h a ci) := by
  unfold sw_e; rw [ho.2]
theorem sw_eR {w : sw_W} {X : sw_X} {h : sw_H} {a t n : Nat} (ho : sw_r w a t n) : sw_e w X h a = .inl (X.2.2.1 t, n, sw_ar w X h a t) := by
  unfold sw_e; rw [ho.2]
theorem sw_set {w : sw_W} {X : sw_X} {h h' : sw_H} {a : Nat} {e : va_E} (he : sw_e w X h' a = e) (ho : ∀ b, b ≠ a → sw_e w X h' b = sw_e w X h b) : (sw_ws w X h).set a (X.2.2.2 a, e) = sw_ws w X h' := by
  apply List.ext_getElem?
  intro j
  by_cases hj : j < w.1
  · rw [sw_at hj]
    by_cases hja : j = a
    · subst hja
      have hl : j < (sw_ws w X h).length := by simp [sw_ws]; exact hj
      rw [List.getElem?_set_self hl, he]
    · rw [List.getElem?_set_ne (Ne.symm hja), sw_at hj, ho j hja]
  · rw [sw_out hj]
    simp [sw_ws]; omega
theorem sw_D {w : sw_W} {X : sw_X} {h : sw_H} (hi : sw_inj w X) : va_D (sw_A w X) (sw_ws w X h) := by
  have key : ∀ (i : Nat) (p : Nat × va_E), (sw_ws w X h)[i]? = some p → i < w.1 ∧ p.1 = X.2.2.2 i := by
    intro i p hp
    by_cases hl : i < w.1
    · rw [sw_at hl] at hp
      cases hp
      exact ⟨hl, rfl⟩
    · rw [sw_out hl] at hp
      cases hp
  refine ⟨fun i j p q hp hq he => ?_, fun k q hq => ?_⟩
  · obtain ⟨a1, a2⟩ := key i p hp
    obtain ⟨b1, b2⟩ := key j q hq
    exact hi i j a1 b1 (by rw [← a2, ← b2]; exact he)
  · obtain ⟨a1, a2⟩ := key k q hq
    exact ⟨k, a1, a2⟩
/-- an int at a place -/
def sw_wI (h : sw_H) (a k : Nat) (x : Int32) : sw_H := (va_up h.1 a (va_up (h.1 a) k x), h.2)
def sw_wL (h : sw_H) (a k : Nat) (x : Int64) : sw_H := (h.1, va_up h.2 a (va_up (h.2 a) k x))
theorem sw_wI_ne {h : sw_H} {a k b : Nat} {x : Int32} (hb : b ≠ a) : (sw_wI h a k x).1 b = h.1 b := by simp [sw_wI, va_up, hb]
theorem sw_wL_ne {h : sw_H} {a k b : Nat} {x : Int64} (hb : b ≠ a) : (sw_wL h a k x).2 b = h.2 b := by simp [sw_wL, va_up, hb]
theorem sw_wI_at {h : sw_H} {a k : Nat} {x : Int32} : (sw_wI h a k x).1 a = va_up (h.1 a) k x := by simp [sw_wI, va_up]
theorem sw_wL_at {h : sw_H} {a k : Nat} {x : Int64} : (sw_wL h a k x).2 a = va_up (h.2 a) k x := by simp [sw_wL, va_up]
theorem sw_e_ne {w : sw_W} {X : sw_X} {h h' : sw_H} {b : Nat} (h1 : h'.1 b = h.1 b) (h2 : h'.2 b = h.2 b) : sw_e w X h' b = sw_e w X h b := by
  unfold sw_e
  cases w.2.1 b with
  | inl ci => simp only [sw_fs, h1, h2]
  | inr q =>
    have : sw_ar w X h' b q.1 = sw_ar w X h b q.1 := by unfold sw_ar; rw [h1, h2]
    simp only [this]
theorem sw_fs_at {w : sw_W} {X : sw_X} {h : sw_H} {a ci k : Nat} (hk : k < sw_nf ci) : (sw_fs w X h a ci)[k]? = some (sw_v X.2.2.2 (sw_ty ci k) (h.1 a k) (h.2 a k) (w.2.2 a k)) := by
  simp [sw_fs, List.getElem?_map, List.getElem?_range hk]
theorem sw_fs_len {w : sw_W} {X : sw_X} {h : sw_H} {a ci : Nat} : (sw_fs w X h a ci).length = sw_nf ci := by simp [sw_fs]
theorem sw_fs_set {w : sw_W} {X : sw_X} {h h' : sw_H} {a ci k : Nat} {v : Value} (hv : sw_v X.2.2.2 (sw_ty ci k) (h'.1 a k) (h'.2 a k) (w.2.2 a k) = v) (ho : ∀ j, j ≠ k → h'.1 a j = h.1 a j ∧ h'.2 a j = h.2 a j) : sw_fs w X h' a ci = (sw_fs w X h a ci).set k v := by
  apply List.ext_getElem?
  intro j
  by_cases hj : j < sw_nf ci
  · rw [sw_fs_at hj]
    by_cases hjk : j = k
    · subst hjk
      rw [List.getElem?_set_self (by rw [sw_fs_len]; exact hj), hv]
    · rw [List.getElem?_set_ne (Ne.symm hjk), sw_fs_at hj, (ho j hjk).1, (ho j hjk).2]
  · rw [List.getElem?_eq_none (by rw [sw_fs_len]; omega), List.getElem?_eq_none (by rw [List.length_set, sw_fs_len]; omega)]
/-- locals: by place -/
def sw_lg : List (Nat × Value) → Nat → Option Value
  | [], _ => none
  | q :: r, i => match Nat.beq q.1 i with
    | true => some q.2
    | false => sw_lg r i
def sw_dr (i : Nat) : List (Nat × Value) → List (Nat × Value)
  | [] => []
  | q :: r => match Nat.beq q.1 i || (Nat.beq (q.1 + 1) i && Nat.beq q.2.category 2) with
    | true => sw_dr i r
    | false => q :: sw_dr i r
/-- a value of one word -/
def sw_s1 (i : Nat) (v : Value) : List (Nat × Value) → List (Nat × Value)
  | [] => [(i, v)]
  | q :: r => match Nat.beq q.1 i with
    | true => (i, v) :: sw_dr i r
    | false => match Nat.beq (q.1 + 1) i && Nat.beq q.2.category 2 with
      | true => sw_s1 i v r
      | false => q :: sw_s1 i v r
def sw_d2 (i : Nat) : List (Nat × Value) → List (Nat × Value)
  | [] => []
  | q :: r => match Nat.beq q.1 i || (Nat.beq q.1 (i + 1) || (Nat.beq (q.1 + 1) i && Nat.beq q.2.category 2)) with
    | true => sw_d2 i r
    | false => q :: sw_d2 i r
/-- a long: two words -/
def sw_s2 (i : Nat) (v : Value) : List (Nat × Value) → List (Nat × Value)
  | [] => [(i, v)]
  | q :: r => match Nat.beq q.1 i with
    | true => (i, v) :: sw_d2 i r
    | false => match Nat.beq q.1 (i + 1) || (Nat.beq (q.1 + 1) i && Nat.beq q.2.category 2) with
      | true => sw_s2 i v r
      | false => q :: sw_s2 i v r
theorem sw_lg_mem {i : Nat} {v : Value} : ∀ {lc : List (Nat × Value)}, sw_lg lc i = some v → (i, v) ∈ lc
  | [], h => by cases h
  | q :: r, h => by
    unfold sw_lg at h
    cases hb : Nat.beq q.1 i with
    | true =>
      rw [hb] at h
      have e := Nat.eq_of_beq_eq_true hb
      cases h
      exact List.mem_cons.mpr (Or.inl (by rw [← e]))
    | false =>
      rw [hb] at h
      exact List.mem_cons_of_mem _ (sw_lg_mem h)
theorem sw_beq (a b : Nat) : Nat.beq a b = (a == b) := by
  by_cases h : a = b
  · subst h; simp
  · rw [show (a == b) = false from by simpa using h]
    cases hb : Nat.beq a b with
    | true => exact absurd (Nat.eq_of_beq_eq_true hb) h
    | false => rfl
abbrev sw_k1 (i : Nat) (q : Nat × Value) : Bool := !(q.1 == i) && !(q.1 + 1 == i && q.2.category == 2)
abbrev sw_k2 (i : Nat) (q : Nat × Value) : Bool := !(q.1 == i) && (!(q.1 == i + 1) && !(q.1 + 1 == i && q.2.category == 2))
theorem sw_dr_sub {i : Nat} : ∀ {lc : List (Nat × Value)} {q : Nat × Value}, q ∈ sw_dr i lc → q ∈ lc ∧ sw_k1 i q = true
  | [], q, h => by cases h
  | p :: r, q, h => by
    unfold sw_dr at h
    cases hb : (Nat.beq p.1 i || (Nat.beq (p.1 + 1) i && Nat.beq p.2.category 2)) with
    | true =>
      rw [hb] at h
      exact ⟨List.mem_cons_of_mem _ (sw_dr_sub h).1, (sw_dr_sub h).2⟩
    | false =>
      rw [hb] at h
      rcases List.mem_cons.mp h with rfl | h
      · refine ⟨List.mem_cons_self, ?_⟩
        simp only [Bool.or_eq_false_iff, sw_beq] at hb
        have e1 : (q.1 == i) = false := hb.1
        have e2 : (q.1 + 1 == i && q.2.category == 2) = false := hb.2
        show (!(q.1 == i) && !(q.1 + 1 == i && q.2.category == 2)) = true
        rw [e1, e2]; rfl
      · exact ⟨List.mem_cons_of_mem _ (sw_dr_sub h).1, (sw_dr_sub h).2⟩
theorem sw_s1_sub {i : Nat} {v : Value} : ∀ {lc : List (Nat × Value)} {q : Nat × Value}, q ∈ sw_s1 i v lc → q = (i, v) ∨ (q ∈ lc ∧ sw_k1 i q = true)
  | [], q, h => Or.inl (List.mem_singleton.mp h)
  | p :: r, q, h => by
    unfold sw_s1 at h
    cases hb : Nat.beq p.1 i with
    | true =>
      rw [hb] at h
      rcases List.mem_cons.mp h with h | h
      · exact Or.inl h
      · exact Or.inr ⟨List.mem_cons_of_mem _ (sw_dr_sub h).1, (sw_dr_sub h).2⟩
    | false =>
      rw [hb] at h
      cases hc : (Nat.beq (p.1 + 1) i && Nat.beq p.2.category 2) with
      | true =>
        rw [hc] at h
        rcases sw_s1_sub h with h | h
        · exact Or.inl h
        · exact Or.inr ⟨List.mem_cons_of_mem _ h.1, h.2⟩
      | false =>
        rw [hc] at h
        rcases List.mem_cons.mp h with rfl | h
        · refine Or.inr ⟨List.mem_cons_self, ?_⟩
          simp only [sw_beq] at hb hc
          have e1 : (q.1 == i) = false := hb
          have e2 : (q.1 + 1 == i && q.2.category == 2) = false := hc
          show (!(q.1 == i) && !(q.1 + 1 == i && q.2.category == 2)) = true
          rw [e1, e2]; rfl
        · rcases sw_s1_sub h with h | h
          · exact Or.inl h
          · exact Or.inr ⟨List.mem_cons_of_mem _ h.1, h.2⟩
theorem sw_d2_sub {i : Nat} : ∀ {lc : List (Nat × Value)} {q : Nat × Value}, q ∈ sw_d2 i lc → q ∈ lc ∧ sw_k2 i q = true
  | [], q, h => by cases h
  | p :: r, q, h => by
    unfold sw_d2 at h
    cases hb : (Nat.beq p.1 i || (Nat.beq p.1 (i + 1) || (Nat.beq (p.1 + 1) i && Nat.beq p.2.category 2))) with
    | true =>
      rw [hb] at h
      exact ⟨List.mem_cons_of_mem _ (sw_d2_sub h).1, (sw_d2_sub h).2⟩
    | false =>
      rw [hb] at h
      rcases List.mem_cons.mp h with rfl | h
      · refine ⟨List.mem_cons_self, ?_⟩
        simp only [Bool.or_eq_false_iff, sw_beq] at hb
        have e1 : (q.1 == i) = false := hb.1
        have e3 : (q.1 == i + 1) = false := hb.2.1
        have e2 : (q.1 + 1 == i && q.2.category == 2) = false := hb.2.2
        show (!(q.1 == i) && (!(q.1 == i + 1) && !(q.1 + 1 == i && q.2.category == 2))) = true
        rw [e1, e2, e3]; rfl
      · exact ⟨List.mem_cons_of_mem _ (sw_d2_sub h).1, (sw_d2_sub h).2⟩
theorem sw_s2_sub {i : Nat} {v : Value} : ∀ {lc : List (Nat × Value)} {q : Nat × Value}, q ∈ sw_s2 i v lc → q = (i, v) ∨ (q ∈ lc ∧ sw_k2 i q = true)
  | [], q, h => Or.inl (List.mem_singleton.mp h)
  | p :: r, q, h => by
    unfold sw_s2 at h
    cases hb : Nat.beq p.1 i with
    | true =>
      rw [hb] at h
      rcases List.mem_cons.mp h with h | h
      · exact Or.inl h
      · exact Or.inr ⟨List.mem_cons_of_mem _ (sw_d2_sub h).1, (sw_d2_sub h).2⟩
    | false =>
      rw [hb] at h
      cases hc : (Nat.beq p.1 (i + 1) || (Nat.beq (p.1 + 1) i && Nat.beq p.2.category 2)) with
      | true =>
        rw [hc] at h
        rcases sw_s2_sub h with h | h
        · exact Or.inl h
        · exact Or.inr ⟨List.mem_cons_of_mem _ h.1, h.2⟩
      | false =>
        rw [hc] at h
        rcases List.mem_cons.mp h with rfl | h
        · refine Or.inr ⟨List.mem_cons_self, ?_⟩
          simp only [Bool.or_eq_false_iff, sw_beq] at hc
          simp only [sw_beq] at hb
          have e1 : (q.1 == i) = false := hb
          have e3 : (q.1 == i + 1) = false := hc.1
          have e2 : (q.1 + 1 == i && q.2.category == 2) = false := hc.2
          show (!(q.1 == i) && (!(q.1 == i + 1) && !(q.1 + 1 == i && q.2.category == 2))) = true
          rw [e1, e2, e3]; rfl
        · rcases sw_s2_sub h with h | h
          · exact Or.inl h
          · exact Or.inr ⟨List.mem_cons_of_mem _ h.1, h.2⟩
/-- the locals of the machine hold the listed ones -/
def sw_L (X : sw_X) (ls : Array Slot) (n : Nat) (lc : List (Nat × Value)) : Prop := lv_has ls n (lc.map fun q => (q.1, sw_cv X.2.2.2 q.2))
theorem sw_L.at {X : sw_X} {ls : Array Slot} {n i : Nat} {lc : List (Nat × Value)} {v : Value} (h : sw_L X ls n lc) (hv : sw_lg lc i = some v) : ls[i]? = some (.val (sw_cv X.2.2.2 v)) :=
  h.2.2 (i, sw_cv X.2.2.2 v) (List.mem_map.mpr ⟨(i, v), sw_lg_mem hv, rfl⟩)
theorem sw_L.sub {X : sw_X} {ls : Array Slot} {n : Nat} {lc lc' : List (Nat × Value)} (h : sw_L X ls n lc) (hs : ∀ q ∈ lc', q ∈ lc) : sw_L X ls n lc' := by
  refine ⟨h.1, h.2.1, fun q hq => ?_⟩
  obtain ⟨r, hr, rfl⟩ := List.mem_map.mp hq
  exact h.2.2 _ (List.mem_map.mpr ⟨r, hs r hr, rfl⟩)
theorem sw_L.s1 {X : sw_X} {ls : Array Slot} {n i : Nat} {lc lc' : List (Nat × Value)} {v : Value} (h : sw_L X ls n lc) (hi : i < n) (hc : v.category = 1) (he : sw_s1 i v lc = lc') :
    ∃ ls', storeLocals ls i (sw_cv X.2.2.2 v) = some ls' ∧ sw_L X ls' n lc' := by
  obtain ⟨ls', e', h'⟩ := lv_store1 (v := sw_cv X.2.2.2 v) h hi (by rw [sw_cv_cat]; exact hc)
  refine ⟨ls', e', h'.1, h'.2.1, fun q hq => h'.2.2 q ?_⟩
  obtain ⟨r, hr, rfl⟩ := List.mem_map.mp hq
  rw [← he] at hr
  rcases sw_s1_sub hr with rfl | ⟨h1, h2⟩
  · exact List.mem_cons_self
  · refine List.mem_cons_of_mem _ (List.mem_filter.mpr ⟨List.mem_map.mpr ⟨r, h1, rfl⟩, ?_⟩)
    show (!(r.1 == i) && !(r.1 + 1 == i && (sw_cv X.2.2.2 r.2).category == 2)) = true
    rw [sw_cv_cat]
    exact h2
theorem sw_L.s2 {X : sw_X} {ls : Array Slot} {n i : Nat} {lc lc' : List (Nat × Value)} {v : Value} (h : sw_L X ls n lc) (hi : i + 1 < n) (hc : v.category = 2) (he : sw_s2 i v lc = lc') :
    ∃ ls', storeLocals ls i (sw_cv X.2.2.2 v) = some ls' ∧ sw_L X ls' n lc' := by
  obtain ⟨ls', e', h'⟩ := lv_store2 (v := sw_cv X.2.2.2 v) h hi (by rw [sw_cv_cat]; exact hc)
  refine ⟨ls', e', h'.1, h'.2.1, fun q hq => h'.2.2 q ?_⟩
  obtain ⟨r, hr, rfl⟩ := List.mem_map.mp hq
  rw [← he] at hr
  rcases sw_s2_sub hr with rfl | ⟨h1, h2⟩
  · exact List.mem_cons_self
  · refine List.mem_cons_of_mem _ (List.mem_filter.mpr ⟨List.mem_map.mpr ⟨r, h1, rfl⟩, ?_⟩)
    show (!(r.1 == i) && (!(r.1 == i + 1) && !(r.1 + 1 == i && (sw_cv X.2.2.2 r.2).category == 2))) = true
    rw [sw_cv_cat]
    exact h2
/-- contracts and places -/
def sw_mw (y : sw_M) : List Cond := Cond.code y.1 y.2.1 y.2.2.1 y.2.2.2 :: sw_big
def sw_rm (d : Nat) : Room := { frames := d, cells := 0, slots := 0, locals := d * 40 }
/-- the calls of a nest mate's private methods (no 'good words': they are carried along with the classes' numbers) -/
def sw_nest : List (String × Nat × MethodName × String) := [(RX1, 26, yX11_divides, RX11), (RX10, 66, yX11_divides, RX11)]
/-- what a method asks of the tables -/
def sw_K (X : sw_X) (U : State) : Prop := va_K (X.1, X.2.1) sw_cl (sw_ts X) U ∧ ∀ q ∈ sw_nest, va_Nw (.methodLinkNest q.1 q.2.1 q.2.2.1 q.2.2.2) U
theorem sw_K.warm {X : sw_X} {s U : State} (hW : s.WarmedH U.vm) (h : sw_K X s) : sw_K X U := ⟨va_K.moved hW.alike h.1, fun q hq => va_Nw.warmM hW (h.2 q hq)⟩
theorem sw_K.call {X : sw_X} {U : State} {g : JFrame} {mk : MethodId} {a : Array Value} (h : sw_K X U) : sw_K X (U.calling g mk a) := ⟨va_K.moved (u := U) (U := U.calling g mk a) (Vm.Alike.refl U.vm) h.1, fun q hq => va_Nw.same rfl (u := U) (U := U.calling g mk a) rfl (h.2 q hq)⟩
def sw_in (w : sw_W) (X : sw_X) (h : sw_H) (U : State) : Prop := va_P (X.1, X.2.1) sw_cl (sw_ws w X h) U.heap ∧ sw_K X U ∧ sw_inj w X
def sw_pc (w : sw_W) (X : sw_X) (args : List Value) (h : sw_H) : Array Value → State → Prop := va_Pc (args.map (sw_cv X.2.2.2)) (sw_in w X h)
abbrev sw_Q : Type := Array Value → State → Outcome → State → Prop
def sw_qI (w : sw_W) (X : sw_X) (Q : Int32 → sw_H → Prop) : sw_Q := va_Qi Q (fun u t => sw_in w X u t) (sw_A w X)
def sw_qL (w : sw_W) (X : sw_X) (Q : Int64 → sw_H → Prop) : sw_Q := va_Ql Q (fun u t => sw_in w X u t) (sw_A w X)
def sw_qV (w : sw_W) (X : sw_X) (Q : sw_H → Prop) : sw_Q := va_Qv Q (fun u t => sw_in w X u t) (sw_A w X)
def sw_qR (w : sw_W) (X : sw_X) (Q : Nat → sw_H → Prop) : sw_Q := va_Qr (fun u : Nat × sw_H => Q u.1 u.2) (fun u ra t => ra = X.2.2.2 u.1 ∧ sw_in w X u.2 t) (sw_A w X)
/-- CONTRACT: the method at these arguments, from this heap, at most d calls deep, comes to an end with Qc -/
def sw_ct (w : sw_W) (X : sw_X) (l : Launch) (d : Nat) (y : sw_M) (args : List Value) (h : sw_H) (Qc : sw_Q) : Prop := Met l y.1 (sw_mw y) (sw_rm d) (sw_pc w X args h) Qc 0 0 (sw_A w X)
/-- PLACE: from this pc, with these locals, this stack, this heap -/
def sw_wp (w : sw_W) (X : sw_X) (l : Launch) (d : Nat) (y : sw_M) (Qc : sw_Q) (pc : Nat) (lc : List (Nat × Value)) (st : List Value) (h : sw_H) : Prop :=
  ∀ (p : Program) (e : Env) (s : State) (m : MethodId) (args : Array Value) (below : List Frame) (meth : Method) (c : Code) (s₁ : State),
    BodyLoose p l y.1 (headSpec (sw_mw y) (sw_rm d)) y.2.1 y.2.2.1 y.2.2.2 e s m args below meth c s₁ → c.maxLocals = y.2.2.1 → sw_K X s → sw_inj w X →
    ∀ (H : Heap) (locs : List Loc), va_P (X.1, X.2.1) sw_cl (sw_ws w X h) H → va_S (sw_A w X) s.heap H locs → ∀ ls : Array Slot, sw_L X ls y.2.2.1 lc →
    W p l e (sw_rm d) s m args below meth c H locs 0 0 (MQ below Qc args s 0 0 (sw_A w X)) (F0 m pc ls (st.map (sw_cv X.2.2.2)))
theorem sw_args_map (σ : Nat → Nat) : ∀ (i : Nat) (vs : List Value), lv_args i (vs.map (sw_cv σ)) = (lv_args i vs).map fun q => (q.1, sw_cv σ q.2)
  | _, [] => by simp [lv_args]
  | i, v :: vs => by
    simp only [List.map_cons, lv_args, sw_cv_cat]
    rw [sw_args_map σ _ vs]
theorem sw_sl_len (σ : Nat → Nat) (vs : List Value) : (lg_sl (vs.map (sw_cv σ))).length = (lg_sl vs).length := by
  induction vs with
  | nil => rfl
  | cons v vs ih =>
    simp only [lg_sl, List.map_cons, List.flatMap_cons, List.length_append, sw_cv_cat] at ih ⊢
    rw [ih]
    by_cases hc : v.category = 2 <;> simp [hc]
theorem sw_ct_of {w : sw_W} {X : sw_X} {l : Launch} {d : Nat} {y : sw_M} {args : List Value} {h : sw_H} {Qc : sw_Q} {lc : List (Nat × Value)} (hy : plainName y.1.cls = true) (hlen : (lg_sl args).length ≤ y.2.2.1) (hlc : lv_args 0 args = lc)
    (k : sw_wp w X l d y Qc 0 lc [] h) : sw_ct w X l d y args h Qc := by
  refine Met.ofW (cc := y.2.1) (maxL := y.2.2.1) (ret := y.2.2.2) (ws' := sw_big) hy rfl ?_
  intro p e s m ar below meth c s₁ B hml hv
  obtain ⟨rfl, hP, hK, hi⟩ := hv
  have hl := lv_entry (args.map (sw_cv X.2.2.2)) (n := y.2.2.1) (by rw [sw_sl_len]; exact hlen)
  rw [lg_entry_eq]
  generalize (lg_sl (args.map (sw_cv X.2.2.2)) ++ List.replicate (y.2.2.1 - (lg_sl (args.map (sw_cv X.2.2.2))).length) Slot.unset).toArray = ls at hl ⊢
  rw [sw_args_map, hlc] at hl
  exact k p e s m _ below meth c s₁ B hml hK hi s.heap [] hP va_S.rf ls hl
theorem sw_wp_sub {w : sw_W} {X : sw_X} {l : Launch} {d : Nat} {y : sw_M} {Qc : sw_Q} {pc : Nat} {lc lc' : List (Nat × Value)} {st : List Value} {h : sw_H} (hs : ∀ q ∈ lc', q ∈ lc) (k : sw_wp w X l d y Qc pc lc' st h) : sw_wp w X l d y Qc pc lc st h := by
  intro p e s m args below meth c s₁ B hml hK hi H locs hP hS ls hl
  exact k p e s m args below meth c s₁ B hml hK hi H locs hP hS ls (hl.sub hs)
