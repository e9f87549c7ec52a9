/-! A ROW FOR multianewarray OF TWO DIMENSIONS: the machine's loop, with what stands behind each turn -/
/-- the tables know the rows of rows of this type -/
def cn_AO (ty : FieldType) (U : State) : Prop := ∃ (comp cA : ClassId) (kA : Class), U.vm.findClass (FieldType.array ty).toString = some comp ∧ U.vm.classes[cA]? = some kA ∧ kA.kind = .array comp (.array ty) ∧ U.vm.findClass ("[" ++ (FieldType.array ty).toString) = some cA
theorem cn_AO.of {ty : FieldType} {A : Array Value} {U : State} (h : (Cond.arrayOver (.array ty)).before A U = true) : cn_AO ty U := by
  obtain ⟨comp, cA, kA, h1, -, h3, h4, h5⟩ := arrayOverA_spec h
  exact ⟨comp, cA, kA, h1, h3, h4, h5⟩
theorem cn_AO.moved {ty : FieldType} {u U : State} (hvm : u.vm.Alike U.vm) (h : cn_AO ty u) : cn_AO ty U := by
  obtain ⟨comp, cA, kA, h1, h3, h4, h5⟩ := h
  obtain ⟨k', hk', he⟩ := hvm.2.2 _ _ h3
  exact ⟨comp, cA, k', by rw [hvm.findClass]; exact h1, hk', by rw [he]; exact h4, by rw [hvm.findClass]; exact h5⟩
section sw_multi
variable {p : Program} {l : Launch} {e : Env} {R : Room} {s : State} {m : MethodId} {args : Array Value} {below : List Frame} {meth : Method} {c : Code} {H : Heap} {locs : List Loc} {cells slots : Nat} {Q : State → Prop}
/-- the outer row behind i turns -/
def mu_f (h i : Nat) (j : Nat) : Value := if j < i then .ref (h + 1 + j) else .null
theorem mu_store {cA N h i : Nat} : (arrV cA N (mu_f h i)).setSlot i (.ref (h + 1 + i)) = arrV cA N (mu_f h (i + 1)) := by
  rw [arrV_store]
  congr 1
  funext j
  unfold updV mu_f
  by_cases e : j = i
  · subst e; rw [if_pos rfl, if_pos (by omega)]
  · rw [if_neg e]
    show (if j < i then Value.ref (h + 1 + j) else Value.null) = _
    by_cases h1 : j < i
    · rw [if_pos h1, if_pos (by omega)]
    · rw [if_neg h1, if_neg (by omega)]
/-- the state behind i turns -/
def mu_at (p : Program) (l : Launch) (e : Env) (R : Room) (s : State) (m : MethodId) (args : Array Value) (below : List Frame) (meth : Method) (c : Code) (T : State) (vm : Vm) (locs : List Loc) (cells slots cA cB N M : Nat) (dv : Value) (i : Nat) (U : State) : Prop :=
  (∃ lo, Stand p l e R s m args below meth c U lo (cells + 1 + i) (slots + N + i * M) ∧ ∀ q ∈ lo, q ∈ locs ∨ q.base = T.heap.size) ∧ U.vm = vm ∧ U.heap.size = T.heap.size + 1 + i ∧ U.heap[T.heap.size]? = some (arrV cA N (mu_f T.heap.size i)) ∧ (∀ j, j < i → U.heap[T.heap.size + 1 + j]? = some (arrV cB M (fun _ => dv))) ∧ ∀ q, q < T.heap.size → U.heap[q]? = T.heap[q]?
theorem mu_size (U : State) (a : Nat) (x : Cell) : (U.setCell a x).heap.size = U.heap.size := by simp [State.setCell]
theorem mu_next {T U : State} {vm : Vm} {cA cB N M i : Nat} {dv : Value} (X : mu_at p l e R s m args below meth c T vm locs cells slots cA cB N M dv i U) :
    mu_at p l e R s m args below meth c T vm locs cells slots cA cB N M dv (i + 1) ((U.pushCell (arrV cB M (fun _ => dv))).setCell T.heap.size ((arrV cA N (mu_f T.heap.size i)).setSlot i (.ref U.heap.size))) := by
  obtain ⟨⟨lo, S, hlo⟩, hv, hz, hh, hin, hold⟩ := X
  have hlt : T.heap.size < U.heap.size := by omega
  have hc : (U.pushCell (arrV cB M (fun _ => dv))).heap[T.heap.size]? = some (arrV cA N (mu_f T.heap.size i)) := by rw [State.heap_pushCell_of_lt (h := hlt)]; exact hh
  have S2 := (S.pushed (arrV cB M (fun _ => dv))).stored hc i (.ref U.heap.size)
  rw [arrV_size] at S2
  have hz2 : (U.pushCell (arrV cB M (fun _ => dv))).heap.size = U.heap.size + 1 := by simp
  refine ⟨⟨_, by rw [show slots + N + (i + 1) * M = slots + N + i * M + M by rw [Nat.succ_mul]; omega]; exact S2, fun q hq => ?_⟩, hv, ?_, ?_, fun j hj => ?_, fun q hq => ?_⟩
  · rcases List.mem_append.mp hq with h | h
    · exact hlo q h
    · rw [List.mem_singleton.mp h]; exact Or.inr rfl
  · rw [mu_size, hz2, hz]; omega
  · rw [State.heap_setCell_self hc, hz, mu_store]
  · rw [State.heap_setCell_other (show T.heap.size ≠ T.heap.size + 1 + j by omega)]
    by_cases e : j < i
    · rw [State.heap_pushCell_of_lt (h := show T.heap.size + 1 + j < U.heap.size by omega)]; exact hin j e
    · have : j = i := by omega
      subst this
      rw [← hz]
      exact State.heap_pushCell_size _ _
  · rw [State.heap_setCell_other (Nat.ne_of_gt hq), State.heap_pushCell_of_lt (h := show q < U.heap.size by omega)]
    exact hold q hq
def mu_U (T : State) (cA cB N M : Nat) (dv : Value) : Nat → State
  | 0 => T.pushCell (arrV cA N (mu_f T.heap.size 0))
  | i + 1 => ((mu_U T cA cB N M dv i).pushCell (arrV cB M (fun _ => dv))).setCell T.heap.size ((arrV cA N (mu_f T.heap.size i)).setSlot i (.ref (mu_U T cA cB N M dv i).heap.size))
theorem mu_all {T : State} {vm : Vm} {cA cB N M : Nat} {dv : Value} (X : mu_at p l e R s m args below meth c T vm locs cells slots cA cB N M dv 0 (T.pushCell (arrV cA N (mu_f T.heap.size 0)))) : ∀ i, mu_at p l e R s m args below meth c T vm locs cells slots cA cB N M dv i (mu_U T cA cB N M dv i)
  | 0 => X
  | i + 1 => mu_next (mu_all X i)
theorem mu_top (T : State) (f : JFrame) (cA cB N M : Nat) (dv : Value) : ∀ i, mu_U (T.setTop f) cA cB N M dv i = (mu_U T cA cB N M dv i).setTop f
  | 0 => rfl
  | i + 1 => by
    show ((mu_U (T.setTop f) cA cB N M dv i).pushCell _).setCell _ ((arrV cA N _).setSlot i (.ref (mu_U (T.setTop f) cA cB N M dv i).heap.size)) = _
    rw [mu_top T f cA cB N M dv i]
    rfl
theorem mu_fits {t : FieldType} (h : t.isReference = true) (a : Addr) : fits t (.ref a) = true ∧ fits t .null = true := by
  cases t <;> simp [FieldType.isReference] at h <;> exact ⟨rfl, rfl⟩
theorem W.multi {cc : ByteArray} (hexec : p.tables.exec = Jvm.exec) (hb : c.code = cc) {own : String} {index : Nat} {ty : FieldType} (hown : s.vm.findClass own = some m.cls)
    (hclink : (Cond.classLink own index ("[" ++ (FieldType.array ty).toString)).before args s = true) (hover : cn_AO ty s) (harr : (Cond.arrayClass ty).before args s = true)
    {g : JFrame} (hg : g.method = m) (hdg : decode cc g.pc = .ok (.multianewarray index 2, 4)) {n k : Int32} {N M : Nat} {rest : List Value} (hstack : g.stack = .int k :: .int n :: rest) (hn : ¬ n < 0) (hk : ¬ k < 0) (hN : n.toNatClampNeg = N) (hM : k.toNatClampNeg = M)
    (hb1 : N * 4 ≤ 536870912) (hb2 : M * componentBytes ty ≤ 536870912) (hb3 : M ≤ 536870912) (hfit : fits ty (defaultValue ty) = true) (hcells : cells + (1 + N) ≤ R.cells) (hslots : slots + (N + N * M) ≤ R.slots)
    (kk : ∀ (H' : Heap) (lo : List Loc) (cA cB : ClassId), s.vm.findClass ("[" ++ (FieldType.array ty).toString) = some cA → s.vm.findClass ("[" ++ ty.toString) = some cB → H'.size = H.size + 1 + N → H'[H.size]? = some (arrV cA N (fun j => .ref (H.size + 1 + j))) → (∀ j, j < N → H'[H.size + 1 + j]? = some (arrV cB M (fun _ => defaultValue ty))) → (∀ q, q < H.size → H'[q]? = H[q]?) → (∀ q ∈ lo, q ∈ locs ∨ q.base = H.size) →
      W p l e R s m args below meth c H' lo (cells + 1 + N) (slots + N + N * M) Q { g with pc := g.pc + 4, stack := .ref H.size :: rest }) : W p l e R s m args below meth c H locs cells slots Q g := by
  intro T hT X
  subst hT; subst hb; subst hg; subst hN; subst hM
  have hpl : e.platform.magicAccessors = ({} : Platform).magicAccessors := by rw [X.admits.platform]
  obtain ⟨comp, cA, kA, hcomp, hkA, hkindA, hnameA⟩ := hover
  obtain ⟨comp', kC, cc', hcomp', hkC, hkindC⟩ := Cond.arrayClass_spec harr
  have ecomp : comp' = comp := Option.some.inj (hcomp'.symm.trans hcomp)
  subst ecomp
  obtain ⟨c0, hfc0, hcl⟩ := Cond.classLink_spec hown hclink e.platform hpl
  cases hnameA.symm.trans hfc0
  obtain ⟨hg₁, hwarm₁, hready₁⟩ := State.classEntry (e := e) X.warmed hcl
  generalize T.vm.noted g.method.cls index (.cls cA) = vm₁ at hg₁ hwarm₁ hready₁
  have hal : s.vm.Alike vm₁ := hwarm₁.alike
  obtain ⟨kA₁, hkA₁, heA⟩ := hal.2.2 _ _ hkA
  obtain ⟨kC₁, hkC₁, heC⟩ := hal.2.2 _ _ hkC
  have hkindA₁ : kA₁.kind = .array comp' (.array ty) := by rw [heA]; exact hkindA
  have hkindC₁ : kC₁.kind = .array cc' ty := by rw [heC]; exact hkindC
  have X₁ := X.noted hwarm₁
  have hl1 : ¬ n.toNatClampNeg > e.platform.arrayLengthLimit := by rw [Launch.admits_arrayLengthLimit X.admits]; omega
  have hh1 : ¬ n.toNatClampNeg * componentBytes (.array ty) > e.platform.maxHeapBytes := by rw [Launch.admits_maxHeapBytes X.admits]; show ¬ n.toNatClampNeg * 4 > 536870912; omega
  have hl2 : ¬ k.toNatClampNeg > e.platform.arrayLengthLimit := by rw [Launch.admits_arrayLengthLimit X.admits]; omega
  have hh2 : ¬ k.toNatClampNeg * componentBytes ty > e.platform.maxHeapBytes := by rw [Launch.admits_maxHeapBytes X.admits]; omega
  have first : mu_at p l e R s g.method args below meth c (T.setVm vm₁) vm₁ locs cells slots cA comp' n.toNatClampNeg k.toNatClampNeg (defaultValue ty) 0 ((T.setVm vm₁).pushCell (arrV cA n.toNatClampNeg (mu_f T.heap.size 0))) := by
    have S := X₁.pushed (arrV cA n.toNatClampNeg (mu_f T.heap.size 0))
    rw [arrV_size] at S
    refine ⟨⟨locs, by simpa using S, fun q hq => Or.inl hq⟩, rfl, by simp, by exact State.heap_pushCell_size _ _, fun j hj => absurd hj (Nat.not_lt_zero j), fun q hq => by rw [State.heap_pushCell_of_lt (h := hq)]⟩
  have all := mu_all first
  have last := all n.toNatClampNeg
  have fin : ∃ t, Steps p.tables e below ((mu_U (T.setVm vm₁) cA comp' n.toNatClampNeg k.toNatClampNeg (defaultValue ty) n.toNatClampNeg).setTop { g with pc := g.pc + 4, stack := .ref T.heap.size :: rest }) t ∧ Q t := by
    obtain ⟨⟨lo, S, hlo⟩, hv, hz, hh, hin, hold⟩ := last
    refine kk _ lo cA comp' hnameA hcomp' hz ?_ hin hold hlo _ rfl S
    rw [show (T.setVm vm₁).heap.size = T.heap.size from rfl] at hh
    rw [hh, arrV, arrV]
    congr 2
    apply Array.ext_getElem?
    intro j
    by_cases hj : j < n.toNatClampNeg
    · simp [hj, mu_f]
    · simp [hj]
  obtain ⟨t, h1, h2⟩ := fin
  refine ⟨t, ?_, h2⟩
  have hfind : ([k].find? (· < 0)) = none := by simp [hk]
  have XF : At (mu_U (T.setVm vm₁) cA comp' n.toNatClampNeg k.toNatClampNeg (defaultValue ty) n.toNatClampNeg) g.method c below := last.1.choose_spec.1.here
  jvm_step X.here [hexec, hdg]
  simp only [multianewarray.sem, wp_bind', W.resolveClassAt_links (State.method?_setTop g X.here.top) hg₁]
  rw [W.popN, if_neg (by decide)]
  refine ⟨g, State.topJava?_setTop' (s := T.setVm vm₁) g X.here.top, [.int n, .int k], rest, rfl, hstack, ?_⟩
  simp only [List.mapM_cons, List.mapM_nil, wp_bind', wp_pure']
  rw [multianewarray.make]
  have eS : ((T.setTop g).setVm vm₁).setTop { g with stack := rest } = (T.setVm vm₁).setTop { g with stack := rest } := by
    show ((T.setVm vm₁).setTop g).setTop _ = _
    rw [State.setTop_setTop]
  rw [eS]
  simp only [wp_bind', W.ite, hn, if_false, wp_pure', W.theClass, State.vm_setTop, State.vm_setVm, hkA₁, hkindA₁, Option.some.injEq, exists_eq_left']
  refine W.newArray_of (comp := comp') (type := .array ty) hkA₁ hkindA₁ hl1 hh1 ?_ ?_ (mu_fits rfl 0).2 (fun acts' => ?_)
  · obtain ⟨r1, -⟩ := X.roomAbove hcells hslots
    show T.heap.size < _; omega
  · obtain ⟨-, r2⟩ := X.roomAbove hcells hslots
    have := Nat.zero_le (n.toNatClampNeg * k.toNatClampNeg)
    show T.slotsUsed + _ ≤ _; omega
  · simp only [hfind]
    rw [ite_self, wp_bind', Std.Legacy.Range.forIn_eq_forIn_range', show ([:n.toNatClampNeg] : Std.Legacy.Range).size = n.toNatClampNeg by simp [Std.Legacy.Range.size]]
    refine wp_forIn_inv (fun todo U => ∃ i, i ≤ n.toNatClampNeg ∧ todo = List.range' i (n.toNatClampNeg - i) ∧ U = (mu_U (T.setVm vm₁) cA comp' n.toNatClampNeg k.toNatClampNeg (defaultValue ty) i).setTop { g with stack := rest }) _ _ ⟨0, Nat.zero_le _, rfl, ?_⟩ ?_ ?_
    · rw [arrV_new]
      rfl
    · rintro x todo U d' acts2 Q' ⟨i, hi, hl, rfl⟩ hnext
      have hlt : i < n.toNatClampNeg := by
        refine Nat.lt_of_not_le fun q => ?_
        rw [show n.toNatClampNeg - i = 0 by omega] at hl
        cases hl
      rw [show n.toNatClampNeg - i = (n.toNatClampNeg - (i + 1)) + 1 by omega, List.range'_succ] at hl
      obtain ⟨rfl, hrest⟩ := List.cons.inj hl
      obtain ⟨⟨lo, S, hlo⟩, hv, hz, hh, hin, hold⟩ := all x
      have hmul : x * k.toNatClampNeg + k.toNatClampNeg ≤ n.toNatClampNeg * k.toNatClampNeg := by
        have := Nat.mul_le_mul_right k.toNatClampNeg (show x + 1 ≤ n.toNatClampNeg from hlt)
        rw [Nat.succ_mul] at this; exact this
      obtain ⟨r1, r2⟩ := S.roomAbove (a := 1) (b := k.toNatClampNeg) (by omega) (by omega)
      have hlt0 : T.heap.size < (mu_U (T.setVm vm₁) cA comp' n.toNatClampNeg k.toNatClampNeg (defaultValue ty) x).heap.size := by rw [hz]; show T.heap.size < T.heap.size + 1 + x; omega
      simp only [wp_bind']
      rw [multianewarray.make]
      simp only [wp_bind', W.ite, hk, if_false, wp_pure', W.theClass, State.vm_setTop, hv, hkC₁, hkindC₁, Option.some.injEq, exists_eq_left']
      refine W.newArray_of (comp := cc') (type := ty) (by show (mu_U _ _ _ _ _ _ x).vm.classes[comp']? = _; rw [hv]; exact hkC₁) hkindC₁ hl2 hh2 (by show (mu_U _ _ _ _ _ _ x).heap.size < _; omega) (by show (mu_U _ _ _ _ _ _ x).slotsUsed + _ ≤ _; exact r2) hfit (fun acts3 => ?_)
      simp only [wp_bind', W.writeLoc, wp_pure']
      refine ⟨arrV cA n.toNatClampNeg (mu_f T.heap.size x), ?_, fun q => (by cases q), by rw [arrV_size]; exact hlt, ?_, hnext _ _ _ ⟨x + 1, hlt, hrest, ?_⟩⟩
      · show ((mu_U (T.setVm vm₁) cA comp' n.toNatClampNeg k.toNatClampNeg (defaultValue ty) x).pushCell _).heap[T.heap.size]? = _
        rw [State.heap_pushCell_of_lt (h := hlt0)]
        exact hh
      · simp [State.fitsSlot, State.slotType?, arrV, hv, hkA₁, hkindA₁, (mu_fits (t := .array ty) rfl _).1]
      · rw [arrV_new]
        rfl
    · rintro U d' acts2 ⟨i, hi, hl, rfl⟩
      have hiN : i = n.toNatClampNeg := by
        refine Classical.byContradiction fun q => ?_
        rw [show n.toNatClampNeg - i = (n.toNatClampNeg - (i + 1)) + 1 by omega, List.range'_succ] at hl
        cases hl
      subst hiN
      simp only [wp_bind', wp_pure', W.mark, W.pushRef, State.topJava?_setTop' _ XF.top, Option.some.injEq, exists_eq_left', State.setTop_setTop, State.heap_setTop]
      intro acts
      simp [jvm, XF.top]
      exact h1
end sw_multi
