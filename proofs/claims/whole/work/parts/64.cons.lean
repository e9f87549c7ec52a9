/-! CONSTRUCTORS: worlds that grow. 'cn_wp' = from this place of a constructor, with this world (k cells and n slots made so far), it comes to its end -/
def cn_nest : List (String × Nat × MethodName × String) := [(RX3, 11, yX1_init, RX11), (RX3, 26, yX7_init, RX11), (RX3, 31, yX10_init, RX11), (RX11, 23, yX0_init, RX11), (RX0, 27, yX9_init, RX11), (RX8, 22, yX5_init, RX11), (RX11, 37, yX5_init, RX11), (RX11, 44, yX10_init, RX11), (RX11, 51, yX9_init, RX11), (RX11, 70, yX6_init, RX11), (RX6, 11, yX10_init, RX11)] ++ sw_nest
/-- what a constructor asks of the tables -/
def cn_K (X : sw_X) (U : State) : Prop := va_K (X.1, X.2.1) sw_cl (sw_ts X) U ∧ (va_AO RX10 U ∧ va_AO RX5 U) ∧ (cn_AO .int U ∧ cn_AO .long U) ∧ ∀ q ∈ cn_nest, va_Nw (.methodLinkNest q.1 q.2.1 q.2.2.1 q.2.2.2) U
theorem cn_K.sw {X : sw_X} {U : State} (h : cn_K X U) : sw_K X U := ⟨h.1, fun q hq => h.2.2.2 q (List.mem_append.mpr (Or.inr hq))⟩
theorem cn_K.warm {X : sw_X} {s U : State} (hW : s.WarmedH U.vm) (h : cn_K X s) : cn_K X U :=
  ⟨va_K.moved hW.alike h.1, ⟨va_AO.moved hW.alike h.2.1.1, va_AO.moved hW.alike h.2.1.2⟩, ⟨cn_AO.moved hW.alike h.2.2.1.1, cn_AO.moved hW.alike h.2.2.1.2⟩, fun q hq => va_Nw.warmM hW (h.2.2.2 q hq)⟩
theorem cn_K.call {X : sw_X} {U : State} {g : JFrame} {mk : MethodId} {a : Array Value} (h : cn_K X U) : cn_K X (U.calling g mk a) :=
  ⟨va_K.moved (u := U) (U := U.calling g mk a) (Vm.Alike.refl U.vm) h.1, ⟨va_AO.moved (u := U) (U := U.calling g mk a) (Vm.Alike.refl U.vm) h.2.1.1, va_AO.moved (u := U) (U := U.calling g mk a) (Vm.Alike.refl U.vm) h.2.1.2⟩, ⟨cn_AO.moved (u := U) (U := U.calling g mk a) (Vm.Alike.refl U.vm) h.2.2.1.1, cn_AO.moved (u := U) (U := U.calling g mk a) (Vm.Alike.refl U.vm) h.2.2.1.2⟩, fun q hq => va_Nw.same rfl (u := U) (U := U.calling g mk a) rfl (h.2.2.2 q hq)⟩
def cn_rm (d mc ms : Nat) : Room := { frames := d, cells := mc, slots := ms, locals := d * 40 }
def cn_in (X : sw_X) (sz : Nat) (ws : va_W) (U : State) : Prop := U.heap.size = sz ∧ va_P (X.1, X.2.1) sw_cl ws U.heap ∧ cn_K X U ∧ va_D (fun _ => True) ws
def cn_q (X : sw_X) (sz : Nat) (w0 : va_W) (wF : (Nat → Nat) → va_W) (u0 : Nat) : sw_Q := va_Qv (fun u : Nat → Nat => u 0 = u0) (fun u t => va_P (X.1, X.2.1) sw_cl (wF u) t.heap ∧ va_D (va_A w0 sz) (wF u)) (va_A w0 sz)
/-- a constructor: from the cells w0 to the cells wF, at most mc cells of ms slots are new -/
def cn_ct (X : sw_X) (l : Launch) (d : Nat) (y : sw_M) (av : List Value) (w0 : va_W) (wF : (Nat → Nat) → va_W) (u0 mc ms : Nat) : Prop := ∀ sz, Met l y.1 (sw_mw y) (cn_rm d mc ms) (va_Pc av (cn_in X sz w0)) (cn_q X sz w0 wF u0) mc ms (va_A w0 sz)
def cn_wp (X : sw_X) (l : Launch) (d : Nat) (y : sw_M) (mc ms sz : Nat) (w0 : va_W) (Qc : sw_Q) (pc : Nat) (lc : List (Nat × Value)) (st : List Value) (ws : va_W) (k n : Nat) : Prop :=
  ∀ (p : Program) (e : Env) (s : State) (m : MethodId) (args : Array Value) (below : List Frame) (meth : Method) (c : Code) (s₁ : State),
    BodyLoose p l y.1 (headSpec (sw_mw y) (cn_rm d mc ms)) y.2.1 y.2.2.1 y.2.2.2 e s m args below meth c s₁ → c.maxLocals = y.2.2.1 → cn_K X s → s.heap.size = sz →
    ∀ (H : Heap) (locs : List Loc), va_P (X.1, X.2.1) sw_cl ws H → va_D (va_A w0 sz) ws → va_S (va_A w0 sz) s.heap H locs → ∀ ls : Array Slot, lv_has ls y.2.2.1 lc →
    W p l e (cn_rm d mc ms) s m args below meth c H locs k n (MQ below Qc args s mc ms (va_A w0 sz)) (F0 m pc ls st)
section sw_cons
variable {X : sw_X} {l : Launch} {d : Nat} {y : sw_M} {mc ms sz : Nat} {w0 : va_W} {Qc : sw_Q} {pc : Nat} {lc lc' : List (Nat × Value)} {st : List Value} {ws : va_W} {k n : Nat}
theorem cn_ct_of {av : List Value} {wF : (Nat → Nat) → va_W} {u0 : Nat} (hy : plainName y.1.cls = true) (hlen : (lg_sl av).length ≤ y.2.2.1) (hlc : lv_args 0 av = lc) (kk : ∀ sz, cn_wp X l d y mc ms sz w0 (cn_q X sz w0 wF u0) 0 lc [] w0 0 0) : cn_ct X l d y av w0 wF u0 mc ms := by
  intro sz
  refine Met.ofW (cc := y.2.1) (maxL := y.2.2.1) (ret := y.2.2.2) (ws' := sw_big) hy rfl ?_
  intro p e s m ar below meth c s₁ B hml hv
  obtain ⟨rfl, hz, hP, hK, hD⟩ := hv
  have hl := lv_entry av (n := y.2.2.1) hlen
  rw [lg_entry_eq]
  generalize (lg_sl av ++ List.replicate (y.2.2.1 - (lg_sl av).length) Slot.unset).toArray = ls at hl ⊢
  rw [hlc] at hl
  exact kk sz p e s m _ below meth c s₁ B hml hK hz s.heap [] hP hD.self va_S.rf ls hl
theorem cn_ret {wF : (Nat → Nat) → va_W} {u0 : Nat} (u : Nat → Nat) (hd : decode y.2.1 pc = .ok (.return_, 1)) (hr : y.2.2.2 = none) (hu : u 0 = u0) (he : ws = wF u) (hk : k ≤ mc) (hn : n ≤ ms) : cn_wp X l d y mc ms sz w0 (cn_q X sz w0 wF u0) pc lc [] ws k n := by
  subst he
  intro p e s m args below meth c s₁ B hml hK hz H locs hP hD hS ls hl
  refine W.widen (k := mc) (n := ms) hk hn ?_
  exact W.vret B.exec B.bytes (by rw [B.returns]; exact hr) (fun t ht hW => ⟨⟨u, rfl, hu, by rw [ht]; exact hP, hD⟩, hS.F ht⟩) hS.2.2 hd
theorem cn_aload (n' : Nat) {i : Fin 4} {a : Nat} (jx : Nat) (hd : decode y.2.1 pc = .ok (.aload_n i, 1)) (hn : pc + 1 = n') (hj : lc[jx]? = some ((i : Nat), .ref a)) (kk : cn_wp X l d y mc ms sz w0 Qc n' lc (.ref a :: st) ws k n) : cn_wp X l d y mc ms sz w0 Qc pc lc st ws k n := by
  subst hn
  intro p e s m args below meth c s₁ B hml hK hz H locs hP hD hS ls hl
  exact lv_aload_n B.exec B.bytes hd rfl (lv_at hl jx hj) (kk p e s m args below meth c s₁ B hml hK hz H locs hP hD hS ls hl)
theorem cn_iload (n' : Nat) {i : Fin 4} {x : Int32} (jx : Nat) (hd : decode y.2.1 pc = .ok (.iload_n i, 1)) (hn : pc + 1 = n') (hj : lc[jx]? = some ((i : Nat), .int x)) (kk : cn_wp X l d y mc ms sz w0 Qc n' lc (.int x :: st) ws k n) : cn_wp X l d y mc ms sz w0 Qc pc lc st ws k n := by
  subst hn
  intro p e s m args below meth c s₁ B hml hK hz H locs hP hD hS ls hl
  exact lv_iload_n B.exec B.bytes hd rfl (lv_at hl jx hj) (kk p e s m args below meth c s₁ B hml hK hz H locs hP hD hS ls hl)
theorem cn_iconst (n' : Nat) {z : Int} (v : Int32) (hd : decode y.2.1 pc = .ok (.iconst z, 1)) (hn : pc + 1 = n') (hv : Int32.ofInt z = v) (kk : cn_wp X l d y mc ms sz w0 Qc n' lc (.int v :: st) ws k n) : cn_wp X l d y mc ms sz w0 Qc pc lc st ws k n := by
  subst hn
  intro p e s m args below meth c s₁ B hml hK hz H locs hP hD hS ls hl
  exact lv_iconst B.exec B.bytes hd hv (kk p e s m args below meth c s₁ B hml hK hz H locs hP hD hS ls hl)
theorem cn_bipush (n' : Nat) {z : Int} (v : Int32) (hd : decode y.2.1 pc = .ok (.bipush z, 2)) (hn : pc + 2 = n') (hv : (Int8.ofInt z).toInt32 = v) (kk : cn_wp X l d y mc ms sz w0 Qc n' lc (.int v :: st) ws k n) : cn_wp X l d y mc ms sz w0 Qc pc lc st ws k n := by
  subst hn
  intro p e s m args below meth c s₁ B hml hK hz H locs hP hD hS ls hl
  exact lv_bipush B.exec B.bytes hd hv (kk p e s m args below meth c s₁ B hml hK hz H locs hP hD hS ls hl)
theorem cn_sipush (n' : Nat) {z : Int} (v : Int32) (hd : decode y.2.1 pc = .ok (.sipush z, 3)) (hn : pc + 3 = n') (hv : (Int16.ofInt z).toInt32 = v) (kk : cn_wp X l d y mc ms sz w0 Qc n' lc (.int v :: st) ws k n) : cn_wp X l d y mc ms sz w0 Qc pc lc st ws k n := by
  subst hn
  intro p e s m args below meth c s₁ B hml hK hz H locs hP hD hS ls hl
  exact lv_sipush B.exec B.bytes hd hv (kk p e s m args below meth c s₁ B hml hK hz H locs hP hD hS ls hl)
theorem cn_lconst (n' : Nat) {z : Fin 2} (v : Int64) (hd : decode y.2.1 pc = .ok (.lconst z, 1)) (hn : pc + 1 = n') (hv : Int64.ofNat (z : Nat) = v) (kk : cn_wp X l d y mc ms sz w0 Qc n' lc (.long v :: st) ws k n) : cn_wp X l d y mc ms sz w0 Qc pc lc st ws k n := by
  subst hn
  intro p e s m args below meth c s₁ B hml hK hz H locs hP hD hS ls hl
  exact lv_lconst B.exec B.bytes hd hv (kk p e s m args below meth c s₁ B hml hK hz H locs hP hD hS ls hl)
theorem cn_dup (n' : Nat) {v : Value} (hd : decode y.2.1 pc = .ok (.dup, 1)) (hn : pc + 1 = n') (hc : v.category = 1) (kk : cn_wp X l d y mc ms sz w0 Qc n' lc (v :: v :: st) ws k n) : cn_wp X l d y mc ms sz w0 Qc pc lc (v :: st) ws k n := by
  subst hn
  intro p e s m args below meth c s₁ B hml hK hz H locs hP hD hS ls hl
  exact lv_dup B.exec B.bytes hd hc (kk p e s m args below meth c s₁ B hml hK hz H locs hP hD hS ls hl)
theorem cn_istore (n' : Nat) {i : Fin 4} {x : Int32} (hd : decode y.2.1 pc = .ok (.istore_n i, 1)) (hn : pc + 1 = n') (hi : (i : Nat) < y.2.2.1) (hl9 : ((i : Nat), Value.int x) :: lc.filter (fun q => !(q.1 == (i : Nat)) && !(q.1 + 1 == (i : Nat) && q.2.category == 2)) = lc') (kk : cn_wp X l d y mc ms sz w0 Qc n' lc' st ws k n) : cn_wp X l d y mc ms sz w0 Qc pc lc (.int x :: st) ws k n := by
  subst hn
  intro p e s m args below meth c s₁ B hml hK hz H locs hP hD hS ls hl
  exact lv_istore_n B.exec B.bytes hd rfl hl hi hl9 (fun ls hl => kk p e s m args below meth c s₁ B hml hK hz H locs hP hD hS ls hl)
theorem cn_iinc (n' : Nat) {i : Nat} {z : Int} {x v : Int32} (jx : Nat) (hd : decode y.2.1 pc = .ok (.iinc i z, 3)) (hn : pc + 3 = n') (hj : lc[jx]? = some (i, .int x)) (hv : x + Int32.ofInt z = v) (hi : i < y.2.2.1) (hl9 : (i, Value.int v) :: lc.filter (fun q => !(q.1 == i) && !(q.1 + 1 == i && q.2.category == 2)) = lc') (kk : cn_wp X l d y mc ms sz w0 Qc n' lc' st ws k n) : cn_wp X l d y mc ms sz w0 Qc pc lc st ws k n := by
  subst hn
  intro p e s m args below meth c s₁ B hml hK hz H locs hP hD hS ls hl
  exact lv_iinc B.exec B.bytes hd hl hj hv hi hl9 (fun ls hl => kk p e s m args below meth c s₁ B hml hK hz H locs hP hD hS ls hl)
theorem cn_goto (n' : Nat) {off : Int} (hd : decode y.2.1 pc = .ok (.goto off, 3)) (ht : (pc : Int) + off = (n' : Int)) (kk : cn_wp X l d y mc ms sz w0 Qc n' lc st ws k n) : cn_wp X l d y mc ms sz w0 Qc pc lc st ws k n := by
  intro p e s m args below meth c s₁ B hml hK hz H locs hP hD hS ls hl
  exact lv_goto B.exec B.bytes hd ht (kk p e s m args below meth c s₁ B hml hK hz H locs hP hD hS ls hl)
theorem cn_geT (n' : Nat) {off : Int} {a b : Int32} (hd : decode y.2.1 pc = .ok (.if_icmp .ge off, 3)) (ht : (pc : Int) + off = (n' : Int)) (h : b ≤ a) (kk : cn_wp X l d y mc ms sz w0 Qc n' lc st ws k n) : cn_wp X l d y mc ms sz w0 Qc pc lc (.int b :: .int a :: st) ws k n := by
  intro p e s m args below meth c s₁ B hml hK hz H locs hP hD hS ls hl
  exact lv_icmp_ge B.exec B.bytes hd ht (fun _ => kk p e s m args below meth c s₁ B hml hK hz H locs hP hD hS ls hl) (fun q => absurd h q)
theorem cn_geF (n' : Nat) {off : Int} {tgt : Nat} {a b : Int32} (hd : decode y.2.1 pc = .ok (.if_icmp .ge off, 3)) (ht : (pc : Int) + off = (tgt : Int)) (hn : pc + 3 = n') (h : ¬ b ≤ a) (kk : cn_wp X l d y mc ms sz w0 Qc n' lc st ws k n) : cn_wp X l d y mc ms sz w0 Qc pc lc (.int b :: .int a :: st) ws k n := by
  subst hn
  intro p e s m args below meth c s₁ B hml hK hz H locs hP hD hS ls hl
  exact lv_icmp_ge B.exec B.bytes hd ht (fun q => absurd q h) (fun _ => kk p e s m args below meth c s₁ B hml hK hz H locs hP hD hS ls hl)
theorem cn_A {s : State} (hz : s.heap.size = sz) : ∀ q, s.heap.size ≤ q → va_A w0 sz q := fun q h => Or.inr (by omega)
theorem cn_new (n' : Nat) {idx ci N : Nat} {C : String} {T : u_T} (g : sw_cf ci C T N) (hcl : Cond.classLink y.1.cls idx C ∈ sw_big) (hins : Cond.instantiable C N ∈ sw_big) (hini : Cond.initialized C ∈ sw_big) (fs : List Value) (hfs : ∀ j, j < N → defaultValue (sw_ty ci j) = vp_V fs j) (hd : decode y.2.1 pc = .ok (.new idx, 3)) (hn : pc + 3 = n') (hk : k + 1 ≤ mc) (hm : n + N ≤ ms)
    (kk : ∀ q, cn_wp X l d y mc ms sz w0 Qc n' lc (.ref q :: st) (ws ++ [(q, .inr (ci, fs))]) (k + 1) (n + N)) : cn_wp X l d y mc ms sz w0 Qc pc lc st ws k n := by
  subst hn
  intro p e s m args below meth c s₁ B hml hK hz H locs hP hD hS ls hl
  obtain ⟨c1, c2, c3, c4, c5⟩ := g
  have hts := atoms_spec (ws := sw_mw y) B.pre
  exact va_new (ci := ci) (C := C) (T := T) (N := N) (fs := fs) B.exec B.bytes hts (fun u hu => sw_mem (c3 u hu)) (sw_ty ci) c4 (findClass_of_methodNamed B.named) (hts _ (sw_mem hcl)) (hts _ (sw_mem hins)) (hts _ (sw_mem hini)) hK.1 hP hD hS (cn_A hz) c1 hfs hk hm hd (fun q H1 hP1 hD1 hS1 => kk q p e s m args below meth c s₁ B hml hK hz H1 locs hP1 hD1 hS1 ls hl)
theorem cn_newI (n' : Nat) {x : Int32} (N : Nat) (harr : Cond.arrayClass .int ∈ sw_big) (hd : decode y.2.1 pc = .ok (.newarray .int, 2)) (hn : pc + 2 = n') (hx : ¬ x < 0) (hN : x.toNatClampNeg = N) (hb : N * 4 ≤ 536870912) (hk : k + 1 ≤ mc) (hm : n + N ≤ ms)
    (kk : ∀ q, cn_wp X l d y mc ms sz w0 Qc n' lc (.ref q :: st) (ws ++ [(q, .inl (X.2.2.1 0, N, .inl fun _ => 0))]) (k + 1) (n + N)) : cn_wp X l d y mc ms sz w0 Qc pc lc (.int x :: st) ws k n := by
  subst hn
  intro p e s m args below meth c s₁ B hml hK hz H locs hP hD hS ls hl
  have hts := atoms_spec (ws := sw_mw y) B.pre
  refine va_newa (atype := .int) (ty := .int) (a0 := (N, .inl fun _ => 0)) B.exec B.bytes (hts _ (sw_mem harr)) rfl hK.1 hP hD hS (cn_A hz) (fun cA => rfl) hx hN hb hk hm hd (fun q cA H1 hK1 hP1 hD1 hS1 => ?_)
  have e9 : cA = X.2.2.1 0 := Option.some.inj ((show s.vm.findClass ("[" ++ FieldType.int.toString) = some cA from (hK1.2 7 (cA, .int) rfl).2).symm.trans (hK.1.2 0 _ rfl).2)
  subst e9
  exact kk q p e s m args below meth c s₁ B hml hK hz H1 locs hP1 hD1 hS1 ls hl
theorem cn_newL (n' : Nat) {x : Int32} (N : Nat) (harr : Cond.arrayClass .long ∈ sw_big) (hd : decode y.2.1 pc = .ok (.newarray .long, 2)) (hn : pc + 2 = n') (hx : ¬ x < 0) (hN : x.toNatClampNeg = N) (hb : N * 8 ≤ 536870912) (hk : k + 1 ≤ mc) (hm : n + N ≤ ms)
    (kk : ∀ q, cn_wp X l d y mc ms sz w0 Qc n' lc (.ref q :: st) (ws ++ [(q, .inl (X.2.2.1 1, N, .inr (.inl fun _ => 0)))]) (k + 1) (n + N)) : cn_wp X l d y mc ms sz w0 Qc pc lc (.int x :: st) ws k n := by
  subst hn
  intro p e s m args below meth c s₁ B hml hK hz H locs hP hD hS ls hl
  have hts := atoms_spec (ws := sw_mw y) B.pre
  refine va_newa (atype := .long) (ty := .long) (a0 := (N, .inr (.inl fun _ => 0))) B.exec B.bytes (hts _ (sw_mem harr)) rfl hK.1 hP hD hS (cn_A hz) (fun cA => rfl) hx hN hb hk hm hd (fun q cA H1 hK1 hP1 hD1 hS1 => ?_)
  have e9 : cA = X.2.2.1 1 := Option.some.inj ((show s.vm.findClass ("[" ++ FieldType.long.toString) = some cA from (hK1.2 7 (cA, .long) rfl).2).symm.trans (hK.1.2 1 _ rfl).2)
  subst e9
  exact kk q p e s m args below meth c s₁ B hml hK hz H1 locs hP1 hD1 hS1 ls hl
theorem cn_newZ (n' : Nat) {x : Int32} (N : Nat) (harr : Cond.arrayClass .boolean ∈ sw_big) (hd : decode y.2.1 pc = .ok (.newarray .boolean, 2)) (hn : pc + 2 = n') (hx : ¬ x < 0) (hN : x.toNatClampNeg = N) (hb : N * 1 ≤ 536870912) (hk : k + 1 ≤ mc) (hm : n + N ≤ ms)
    (kk : ∀ q, cn_wp X l d y mc ms sz w0 Qc n' lc (.ref q :: st) (ws ++ [(q, .inl (X.2.2.1 2, N, .inl fun _ => 0))]) (k + 1) (n + N)) : cn_wp X l d y mc ms sz w0 Qc pc lc (.int x :: st) ws k n := by
  subst hn
  intro p e s m args below meth c s₁ B hml hK hz H locs hP hD hS ls hl
  have hts := atoms_spec (ws := sw_mw y) B.pre
  refine va_newa (atype := .boolean) (ty := .boolean) (a0 := (N, .inl fun _ => 0)) B.exec B.bytes (hts _ (sw_mem harr)) rfl hK.1 hP hD hS (cn_A hz) (fun cA => rfl) hx hN hb hk hm hd (fun q cA H1 hK1 hP1 hD1 hS1 => ?_)
  have e9 : cA = X.2.2.1 2 := Option.some.inj ((show s.vm.findClass ("[" ++ FieldType.boolean.toString) = some cA from (hK1.2 7 (cA, .boolean) rfl).2).symm.trans (hK.1.2 2 _ rfl).2)
  subst e9
  exact kk q p e s m args below meth c s₁ B hml hK hz H1 locs hP1 hD1 hS1 ls hl
theorem cn_newQ (n' : Nat) {x : Int32} {idx : Nat} (t N : Nat) (C : String) (ht : (sw_ts X)[t]? = some (X.2.2.1 t, .object C)) (hao : ∀ s, cn_K X s → va_AO C s) (hcl : Cond.classLink y.1.cls idx C ∈ sw_big) (hd : decode y.2.1 pc = .ok (.anewarray idx, 3)) (hn : pc + 3 = n') (hx : ¬ x < 0) (hN : x.toNatClampNeg = N) (hb : N * 4 ≤ 536870912) (hk : k + 1 ≤ mc) (hm : n + N ≤ ms)
    (kk : ∀ q, cn_wp X l d y mc ms sz w0 Qc n' lc (.ref q :: st) (ws ++ [(q, .inl (X.2.2.1 t, N, .inr (.inr (.inr (.inr fun _ => none)))))]) (k + 1) (n + N)) : cn_wp X l d y mc ms sz w0 Qc pc lc (.int x :: st) ws k n := by
  subst hn
  intro p e s m args below meth c s₁ B hml hK hz H locs hP hD hS ls hl
  have hts := atoms_spec (ws := sw_mw y) B.pre
  refine va_newq B.exec B.bytes (findClass_of_methodNamed B.named) (hts _ (sw_mem hcl)) (hao s hK) hK.1 hP hD hS (cn_A hz) hx hN hb hk hm hd (fun q cA H1 hK1 hP1 hD1 hS1 => ?_)
  obtain ⟨_, _, -, -, -, a4⟩ := (hK1.2 7 (cA, .object C) rfl).2
  obtain ⟨_, _, -, -, -, b4⟩ := (hK.1.2 t _ ht).2
  have e9 : cA = X.2.2.1 t := Option.some.inj (a4.symm.trans b4)
  subst e9
  exact kk q p e s m args below meth c s₁ B hml hK hz H1 locs hP1 hD1 hS1 ls hl
end sw_cons
