/-! THE RULES: a rule an instruction; n is the pc behind it, tgt where a jump goes -/
section sw_rules
variable {w : sw_W} {X : sw_X} {l : Launch} {d : Nat} {y : sw_M} {Qc : sw_Q} {pc : Nat} {lc lc' : List (Nat × Value)} {st : List Value} {h : sw_H}
theorem sw_iadd (n : Nat) {a b : Int32} (hd : decode y.2.1 pc = .ok (.iadd, 1)) (hn : pc + 1 = n) (k : sw_wp w X l d y Qc n lc (.int (a + b) :: st) h) : sw_wp w X l d y Qc pc lc (.int b :: .int a :: st) h := by
  subst hn
  intro p e s m args below meth c s₁ B hml hK hi H locs hP hS ls hl
  exact lv_iadd B.exec B.bytes hd (k p e s m args below meth c s₁ B hml hK hi H locs hP hS ls hl)
theorem sw_isub (n : Nat) {a b : Int32} (hd : decode y.2.1 pc = .ok (.isub, 1)) (hn : pc + 1 = n) (k : sw_wp w X l d y Qc n lc (.int (a - b) :: st) h) : sw_wp w X l d y Qc pc lc (.int b :: .int a :: st) h := by
  subst hn
  intro p e s m args below meth c s₁ B hml hK hi H locs hP hS ls hl
  exact lv_isub B.exec B.bytes hd (k p e s m args below meth c s₁ B hml hK hi H locs hP hS ls hl)
theorem sw_imul (n : Nat) {a b : Int32} (hd : decode y.2.1 pc = .ok (.imul, 1)) (hn : pc + 1 = n) (k : sw_wp w X l d y Qc n lc (.int (a * b) :: st) h) : sw_wp w X l d y Qc pc lc (.int b :: .int a :: st) h := by
  subst hn
  intro p e s m args below meth c s₁ B hml hK hi H locs hP hS ls hl
  exact lv_imul B.exec B.bytes hd (k p e s m args below meth c s₁ B hml hK hi H locs hP hS ls hl)
theorem sw_iand (n : Nat) {a b : Int32} (hd : decode y.2.1 pc = .ok (.iand, 1)) (hn : pc + 1 = n) (k : sw_wp w X l d y Qc n lc (.int (a &&& b) :: st) h) : sw_wp w X l d y Qc pc lc (.int b :: .int a :: st) h := by
  subst hn
  intro p e s m args below meth c s₁ B hml hK hi H locs hP hS ls hl
  exact lv_iand B.exec B.bytes hd (k p e s m args below meth c s₁ B hml hK hi H locs hP hS ls hl)
theorem sw_ixor (n : Nat) {a b : Int32} (hd : decode y.2.1 pc = .ok (.ixor, 1)) (hn : pc + 1 = n) (k : sw_wp w X l d y Qc n lc (.int (a ^^^ b) :: st) h) : sw_wp w X l d y Qc pc lc (.int b :: .int a :: st) h := by
  subst hn
  intro p e s m args below meth c s₁ B hml hK hi H locs hP hS ls hl
  exact lv_ixor B.exec B.bytes hd (k p e s m args below meth c s₁ B hml hK hi H locs hP hS ls hl)
theorem sw_ladd (n : Nat) {a b : Int64} (hd : decode y.2.1 pc = .ok (.ladd, 1)) (hn : pc + 1 = n) (k : sw_wp w X l d y Qc n lc (.long (a + b) :: st) h) : sw_wp w X l d y Qc pc lc (.long b :: .long a :: st) h := by
  subst hn
  intro p e s m args below meth c s₁ B hml hK hi H locs hP hS ls hl
  exact lv_ladd B.exec B.bytes hd (k p e s m args below meth c s₁ B hml hK hi H locs hP hS ls hl)
theorem sw_lsub (n : Nat) {a b : Int64} (hd : decode y.2.1 pc = .ok (.lsub, 1)) (hn : pc + 1 = n) (k : sw_wp w X l d y Qc n lc (.long (a - b) :: st) h) : sw_wp w X l d y Qc pc lc (.long b :: .long a :: st) h := by
  subst hn
  intro p e s m args below meth c s₁ B hml hK hi H locs hP hS ls hl
  exact lv_lsub B.exec B.bytes hd (k p e s m args below meth c s₁ B hml hK hi H locs hP hS ls hl)
theorem sw_lmul (n : Nat) {a b : Int64} (hd : decode y.2.1 pc = .ok (.lmul, 1)) (hn : pc + 1 = n) (k : sw_wp w X l d y Qc n lc (.long (a * b) :: st) h) : sw_wp w X l d y Qc pc lc (.long b :: .long a :: st) h := by
  subst hn
  intro p e s m args below meth c s₁ B hml hK hi H locs hP hS ls hl
  exact lv_lmul B.exec B.bytes hd (k p e s m args below meth c s₁ B hml hK hi H locs hP hS ls hl)
theorem sw_idiv (n : Nat) {a b : Int32} (hd : decode y.2.1 pc = .ok (.idiv, 1)) (hn : pc + 1 = n) (hz : ¬ b = 0) (k : sw_wp w X l d y Qc n lc (.int (a / b) :: st) h) : sw_wp w X l d y Qc pc lc (.int b :: .int a :: st) h := by
  subst hn
  intro p e s m args below meth c s₁ B hml hK hi H locs hP hS ls hl
  exact lv_idiv B.exec B.bytes hd hz (k p e s m args below meth c s₁ B hml hK hi H locs hP hS ls hl)
theorem sw_irem (n : Nat) {a b : Int32} (hd : decode y.2.1 pc = .ok (.irem, 1)) (hn : pc + 1 = n) (hz : ¬ b = 0) (k : sw_wp w X l d y Qc n lc (.int (a - a / b * b) :: st) h) : sw_wp w X l d y Qc pc lc (.int b :: .int a :: st) h := by
  subst hn
  intro p e s m args below meth c s₁ B hml hK hi H locs hP hS ls hl
  exact lv_irem B.exec B.bytes hd hz (k p e s m args below meth c s₁ B hml hK hi H locs hP hS ls hl)
theorem sw_ldiv (n : Nat) {a b : Int64} (hd : decode y.2.1 pc = .ok (.ldiv, 1)) (hn : pc + 1 = n) (hz : ¬ b = 0) (k : sw_wp w X l d y Qc n lc (.long (a / b) :: st) h) : sw_wp w X l d y Qc pc lc (.long b :: .long a :: st) h := by
  subst hn
  intro p e s m args below meth c s₁ B hml hK hi H locs hP hS ls hl
  exact lv_ldiv B.exec B.bytes hd hz (k p e s m args below meth c s₁ B hml hK hi H locs hP hS ls hl)
theorem sw_lrem (n : Nat) {a b : Int64} (hd : decode y.2.1 pc = .ok (.lrem, 1)) (hn : pc + 1 = n) (hz : ¬ b = 0) (k : sw_wp w X l d y Qc n lc (.long (a - a / b * b) :: st) h) : sw_wp w X l d y Qc pc lc (.long b :: .long a :: st) h := by
  subst hn
  intro p e s m args below meth c s₁ B hml hK hi H locs hP hS ls hl
  exact lv_lrem B.exec B.bytes hd hz (k p e s m args below meth c s₁ B hml hK hi H locs hP hS ls hl)
theorem sw_ineg (n : Nat) {a : Int32} (hd : decode y.2.1 pc = .ok (.ineg, 1)) (hn : pc + 1 = n) (k : sw_wp w X l d y Qc n lc (.int (-a) :: st) h) : sw_wp w X l d y Qc pc lc (.int a :: st) h := by
  subst hn
  intro p e s m args below meth c s₁ B hml hK hi H locs hP hS ls hl
  exact lv_ineg B.exec B.bytes hd (k p e s m args below meth c s₁ B hml hK hi H locs hP hS ls hl)
theorem sw_lneg (n : Nat) {a : Int64} (hd : decode y.2.1 pc = .ok (.lneg, 1)) (hn : pc + 1 = n) (k : sw_wp w X l d y Qc n lc (.long (-a) :: st) h) : sw_wp w X l d y Qc pc lc (.long a :: st) h := by
  subst hn
  intro p e s m args below meth c s₁ B hml hK hi H locs hP hS ls hl
  exact lv_lneg B.exec B.bytes hd (k p e s m args below meth c s₁ B hml hK hi H locs hP hS ls hl)
theorem sw_i2l (n : Nat) {a : Int32} (hd : decode y.2.1 pc = .ok (.i2l, 1)) (hn : pc + 1 = n) (k : sw_wp w X l d y Qc n lc (.long a.toInt64 :: st) h) : sw_wp w X l d y Qc pc lc (.int a :: st) h := by
  subst hn
  intro p e s m args below meth c s₁ B hml hK hi H locs hP hS ls hl
  exact lv_i2l B.exec B.bytes hd rfl (k p e s m args below meth c s₁ B hml hK hi H locs hP hS ls hl)
theorem sw_l2i (n : Nat) {a : Int64} (hd : decode y.2.1 pc = .ok (.l2i, 1)) (hn : pc + 1 = n) (k : sw_wp w X l d y Qc n lc (.int a.toInt32 :: st) h) : sw_wp w X l d y Qc pc lc (.long a :: st) h := by
  subst hn
  intro p e s m args below meth c s₁ B hml hK hi H locs hP hS ls hl
  exact lv_l2i B.exec B.bytes hd rfl (k p e s m args below meth c s₁ B hml hK hi H locs hP hS ls hl)
theorem sw_lcmp (n : Nat) {a b : Int64} (hd : decode y.2.1 pc = .ok (.lcmp, 1)) (hn : pc + 1 = n) (k : sw_wp w X l d y Qc n lc (.int (lg_cmp a b) :: st) h) : sw_wp w X l d y Qc pc lc (.long b :: .long a :: st) h := by
  subst hn
  intro p e s m args below meth c s₁ B hml hK hi H locs hP hS ls hl
  exact W.lcmp B.exec B.bytes hd (k p e s m args below meth c s₁ B hml hK hi H locs hP hS ls hl)
theorem sw_iconst (n : Nat) {z : Int} (hd : decode y.2.1 pc = .ok (.iconst z, 1)) (hn : pc + 1 = n) {v : Int32} (hv : Int32.ofInt z = v) (k : sw_wp w X l d y Qc n lc (.int v :: st) h) : sw_wp w X l d y Qc pc lc (st) h := by
  subst hn
  intro p e s m args below meth c s₁ B hml hK hi H locs hP hS ls hl
  exact lv_iconst B.exec B.bytes hd hv (k p e s m args below meth c s₁ B hml hK hi H locs hP hS ls hl)
theorem sw_bipush (n : Nat) {z : Int} (hd : decode y.2.1 pc = .ok (.bipush z, 2)) (hn : pc + 2 = n) {v : Int32} (hv : (Int8.ofInt z).toInt32 = v) (k : sw_wp w X l d y Qc n lc (.int v :: st) h) : sw_wp w X l d y Qc pc lc (st) h := by
  subst hn
  intro p e s m args below meth c s₁ B hml hK hi H locs hP hS ls hl
  exact lv_bipush B.exec B.bytes hd hv (k p e s m args below meth c s₁ B hml hK hi H locs hP hS ls hl)
theorem sw_sipush (n : Nat) {z : Int} (hd : decode y.2.1 pc = .ok (.sipush z, 3)) (hn : pc + 3 = n) {v : Int32} (hv : (Int16.ofInt z).toInt32 = v) (k : sw_wp w X l d y Qc n lc (.int v :: st) h) : sw_wp w X l d y Qc pc lc (st) h := by
  subst hn
  intro p e s m args below meth c s₁ B hml hK hi H locs hP hS ls hl
  exact lv_sipush B.exec B.bytes hd hv (k p e s m args below meth c s₁ B hml hK hi H locs hP hS ls hl)
theorem sw_lconst (n : Nat) {z : Fin 2} (hd : decode y.2.1 pc = .ok (.lconst z, 1)) (hn : pc + 1 = n) {v : Int64} (hv : Int64.ofNat (z : Nat) = v) (k : sw_wp w X l d y Qc n lc (.long v :: st) h) : sw_wp w X l d y Qc pc lc (st) h := by
  subst hn
  intro p e s m args below meth c s₁ B hml hK hi H locs hP hS ls hl
  exact lv_lconst B.exec B.bytes hd hv (k p e s m args below meth c s₁ B hml hK hi H locs hP hS ls hl)
theorem sw_iload_n (n : Nat) {j : Fin 4} {i : Nat} {x : Int32} (hd : decode y.2.1 pc = .ok (.iload_n j, 1)) (hn : pc + 1 = n) (h9 : (j : Nat) = i) (hg : sw_lg lc i = some (.int x)) (k : sw_wp w X l d y Qc n lc (.int x :: st) h) : sw_wp w X l d y Qc pc lc (st) h := by
  subst hn
  intro p e s m args below meth c s₁ B hml hK hi H locs hP hS ls hl
  exact lv_iload_n B.exec B.bytes hd h9 (hl.at hg) (k p e s m args below meth c s₁ B hml hK hi H locs hP hS ls hl)
theorem sw_iload (n : Nat) {i : Nat} {x : Int32} (hd : decode y.2.1 pc = .ok (.iload i, 2)) (hn : pc + 2 = n) (hg : sw_lg lc i = some (.int x)) (k : sw_wp w X l d y Qc n lc (.int x :: st) h) : sw_wp w X l d y Qc pc lc (st) h := by
  subst hn
  intro p e s m args below meth c s₁ B hml hK hi H locs hP hS ls hl
  exact lv_iload B.exec B.bytes hd (hl.at hg) (k p e s m args below meth c s₁ B hml hK hi H locs hP hS ls hl)
theorem sw_lload_n (n : Nat) {j : Fin 4} {i : Nat} {x : Int64} (hd : decode y.2.1 pc = .ok (.lload_n j, 1)) (hn : pc + 1 = n) (h9 : (j : Nat) = i) (hg : sw_lg lc i = some (.long x)) (k : sw_wp w X l d y Qc n lc (.long x :: st) h) : sw_wp w X l d y Qc pc lc (st) h := by
  subst hn
  intro p e s m args below meth c s₁ B hml hK hi H locs hP hS ls hl
  exact lv_lload_n B.exec B.bytes hd h9 (hl.at hg) (k p e s m args below meth c s₁ B hml hK hi H locs hP hS ls hl)
theorem sw_lload (n : Nat) {i : Nat} {x : Int64} (hd : decode y.2.1 pc = .ok (.lload i, 2)) (hn : pc + 2 = n) (hg : sw_lg lc i = some (.long x)) (k : sw_wp w X l d y Qc n lc (.long x :: st) h) : sw_wp w X l d y Qc pc lc (st) h := by
  subst hn
  intro p e s m args below meth c s₁ B hml hK hi H locs hP hS ls hl
  exact lv_lload B.exec B.bytes hd (hl.at hg) (k p e s m args below meth c s₁ B hml hK hi H locs hP hS ls hl)
theorem sw_aload_n (n : Nat) {j : Fin 4} {i : Nat} {x : Nat} (hd : decode y.2.1 pc = .ok (.aload_n j, 1)) (hn : pc + 1 = n) (h9 : (j : Nat) = i) (hg : sw_lg lc i = some (.ref x)) (k : sw_wp w X l d y Qc n lc (.ref x :: st) h) : sw_wp w X l d y Qc pc lc (st) h := by
  subst hn
  intro p e s m args below meth c s₁ B hml hK hi H locs hP hS ls hl
  exact lv_aload_n B.exec B.bytes hd h9 (hl.at hg) (k p e s m args below meth c s₁ B hml hK hi H locs hP hS ls hl)
theorem sw_aload (n : Nat) {i : Nat} {x : Nat} (hd : decode y.2.1 pc = .ok (.aload i, 2)) (hn : pc + 2 = n) (hg : sw_lg lc i = some (.ref x)) (k : sw_wp w X l d y Qc n lc (.ref x :: st) h) : sw_wp w X l d y Qc pc lc (st) h := by
  subst hn
  intro p e s m args below meth c s₁ B hml hK hi H locs hP hS ls hl
  exact lv_aload B.exec B.bytes hd (hl.at hg) (k p e s m args below meth c s₁ B hml hK hi H locs hP hS ls hl)
theorem sw_istore_n (n : Nat) {j : Fin 4} {i : Nat} {x : Int32} (hd : decode y.2.1 pc = .ok (.istore_n j, 1)) (hn : pc + 1 = n) (hi : (j : Nat) = i) (hm : i < y.2.2.1) (he : sw_s1 i (.int x) lc = lc') (k : sw_wp w X l d y Qc n lc' (st) h) : sw_wp w X l d y Qc pc lc (.int x :: st) h := by
  subst hn
  subst hi
  intro p e s m args below meth c s₁ B hml hK hj H locs hP hS ls hl
  obtain ⟨ls', e', h'⟩ := hl.s1 (v := .int x) hm rfl he
  have kk := k p e s m args below meth c s₁ B hml hK hj H locs hP hS ls' h'
  intro T hT Y
  obtain ⟨t, a1, b1⟩ := kk T hT Y
  refine ⟨t, ?_, b1⟩
  have e9 : storeLocals ls j (.int x) = some ls' := e'
  have hx := B.exec
  have hb := B.bytes
  jvm_step Y.here [Y.here.top, ↓top_set Y.here.top, hx, hb, hd, e9, sw_cv, List.map_cons]
  exact a1
theorem sw_istore (n : Nat) {i : Nat} {x : Int32} (hd : decode y.2.1 pc = .ok (.istore i, 2)) (hn : pc + 2 = n) (hm : i < y.2.2.1) (he : sw_s1 i (.int x) lc = lc') (k : sw_wp w X l d y Qc n lc' (st) h) : sw_wp w X l d y Qc pc lc (.int x :: st) h := by
  subst hn
  intro p e s m args below meth c s₁ B hml hK hj H locs hP hS ls hl
  obtain ⟨ls', e', h'⟩ := hl.s1 (v := .int x) hm rfl he
  have kk := k p e s m args below meth c s₁ B hml hK hj H locs hP hS ls' h'
  intro T hT Y
  obtain ⟨t, a1, b1⟩ := kk T hT Y
  refine ⟨t, ?_, b1⟩
  have e9 : storeLocals ls i (.int x) = some ls' := e'
  have hx := B.exec
  have hb := B.bytes
  jvm_step Y.here [Y.here.top, ↓top_set Y.here.top, hx, hb, hd, e9, sw_cv, List.map_cons]
  exact a1
theorem sw_lstore_n (n : Nat) {j : Fin 4} {i : Nat} {x : Int64} (hd : decode y.2.1 pc = .ok (.lstore_n j, 1)) (hn : pc + 1 = n) (hi : (j : Nat) = i) (hm : i + 1 < y.2.2.1) (he : sw_s2 i (.long x) lc = lc') (k : sw_wp w X l d y Qc n lc' (st) h) : sw_wp w X l d y Qc pc lc (.long x :: st) h := by
  subst hn
  subst hi
  intro p e s m args below meth c s₁ B hml hK hj H locs hP hS ls hl
  obtain ⟨ls', e', h'⟩ := hl.s2 (v := .long x) hm rfl he
  have kk := k p e s m args below meth c s₁ B hml hK hj H locs hP hS ls' h'
  intro T hT Y
  obtain ⟨t, a1, b1⟩ := kk T hT Y
  refine ⟨t, ?_, b1⟩
  have e9 : storeLocals ls j (.long x) = some ls' := e'
  have hx := B.exec
  have hb := B.bytes
  jvm_step Y.here [Y.here.top, ↓top_set Y.here.top, hx, hb, hd, e9, sw_cv, List.map_cons]
  exact a1
theorem sw_lstore (n : Nat) {i : Nat} {x : Int64} (hd : decode y.2.1 pc = .ok (.lstore i, 2)) (hn : pc + 2 = n) (hm : i + 1 < y.2.2.1) (he : sw_s2 i (.long x) lc = lc') (k : sw_wp w X l d y Qc n lc' (st) h) : sw_wp w X l d y Qc pc lc (.long x :: st) h := by
  subst hn
  intro p e s m args below meth c s₁ B hml hK hj H locs hP hS ls hl
  obtain ⟨ls', e', h'⟩ := hl.s2 (v := .long x) hm rfl he
  have kk := k p e s m args below meth c s₁ B hml hK hj H locs hP hS ls' h'
  intro T hT Y
  obtain ⟨t, a1, b1⟩ := kk T hT Y
  refine ⟨t, ?_, b1⟩
  have e9 : storeLocals ls i (.long x) = some ls' := e'
  have hx := B.exec
  have hb := B.bytes
  jvm_step Y.here [Y.here.top, ↓top_set Y.here.top, hx, hb, hd, e9, sw_cv, List.map_cons]
  exact a1
theorem sw_astore_n (n : Nat) {j : Fin 4} {i : Nat} {x : Nat} (hd : decode y.2.1 pc = .ok (.astore_n j, 1)) (hn : pc + 1 = n) (hi : (j : Nat) = i) (hm : i < y.2.2.1) (he : sw_s1 i (.ref x) lc = lc') (k : sw_wp w X l d y Qc n lc' (st) h) : sw_wp w X l d y Qc pc lc (.ref x :: st) h := by
  subst hn
  subst hi
  intro p e s m args below meth c s₁ B hml hK hj H locs hP hS ls hl
  obtain ⟨ls', e', h'⟩ := hl.s1 (v := .ref x) hm rfl he
  have kk := k p e s m args below meth c s₁ B hml hK hj H locs hP hS ls' h'
  intro T hT Y
  obtain ⟨t, a1, b1⟩ := kk T hT Y
  refine ⟨t, ?_, b1⟩
  have e9 : storeLocals ls j (.ref (X.2.2.2 x)) = some ls' := e'
  have hx := B.exec
  have hb := B.bytes
  jvm_step Y.here [Y.here.top, ↓top_set Y.here.top, hx, hb, hd, e9, sw_cv, List.map_cons]
  exact ⟨rfl, a1⟩
theorem sw_astore (n : Nat) {i : Nat} {x : Nat} (hd : decode y.2.1 pc = .ok (.astore i, 2)) (hn : pc + 2 = n) (hm : i < y.2.2.1) (he : sw_s1 i (.ref x) lc = lc') (k : sw_wp w X l d y Qc n lc' (st) h) : sw_wp w X l d y Qc pc lc (.ref x :: st) h := by
  subst hn
  intro p e s m args below meth c s₁ B hml hK hj H locs hP hS ls hl
  obtain ⟨ls', e', h'⟩ := hl.s1 (v := .ref x) hm rfl he
  have kk := k p e s m args below meth c s₁ B hml hK hj H locs hP hS ls' h'
  intro T hT Y
  obtain ⟨t, a1, b1⟩ := kk T hT Y
  refine ⟨t, ?_, b1⟩
  have e9 : storeLocals ls i (.ref (X.2.2.2 x)) = some ls' := e'
  have hx := B.exec
  have hb := B.bytes
  jvm_step Y.here [Y.here.top, ↓top_set Y.here.top, hx, hb, hd, e9, sw_cv, List.map_cons]
  exact ⟨rfl, a1⟩
theorem sw_iinc (n : Nat) {i : Nat} {z : Int} {x v : Int32} (hd : decode y.2.1 pc = .ok (.iinc i z, 3)) (hn : pc + 3 = n) (hm : i < y.2.2.1) (hg : sw_lg lc i = some (.int x)) (hv : Int32.ofInt z = v) (he : sw_s1 i (.int (x + v)) lc = lc') (k : sw_wp w X l d y Qc n lc' (st) h) : sw_wp w X l d y Qc pc lc (st) h := by
  subst hn
  subst hv
  intro p e s m args below meth c s₁ B hml hK hj H locs hP hS ls hl
  obtain ⟨ls', e', h'⟩ := hl.s1 (v := .int (x + Int32.ofInt z)) hm rfl he
  have kk := k p e s m args below meth c s₁ B hml hK hj H locs hP hS ls' h'
  have hg2 : ls[i]? = some (.val (.int x)) := hl.at hg
  intro T hT Y
  obtain ⟨t, a1, b1⟩ := kk T hT Y
  refine ⟨t, ?_, b1⟩
  have e9 : storeLocals ls i (.int (x + Int32.ofInt z)) = some ls' := e'
  have hx := B.exec
  have hb := B.bytes
  jvm_step Y.here [Y.here.top, ↓top_set Y.here.top, hx, hb, hd, hg2, e9]
  exact a1
theorem sw_dup (n : Nat) {v : Value} (hd : decode y.2.1 pc = .ok (.dup, 1)) (hn : pc + 1 = n) (hc : v.category = 1) (k : sw_wp w X l d y Qc n lc (v :: v :: st) h) : sw_wp w X l d y Qc pc lc (v :: st) h := by
  subst hn
  intro p e s m args below meth c s₁ B hml hK hi H locs hP hS ls hl
  exact lv_dup B.exec B.bytes hd (by rw [sw_cv_cat]; exact hc) (k p e s m args below meth c s₁ B hml hK hi H locs hP hS ls hl)
theorem sw_pop (n : Nat) {v : Value} (hd : decode y.2.1 pc = .ok (.pop, 1)) (hn : pc + 1 = n) (hc : v.category = 1) (k : sw_wp w X l d y Qc n lc (st) h) : sw_wp w X l d y Qc pc lc (v :: st) h := by
  subst hn
  intro p e s m args below meth c s₁ B hml hK hi H locs hP hS ls hl
  exact lv_pop B.exec B.bytes hd (by rw [sw_cv_cat]; exact hc) (k p e s m args below meth c s₁ B hml hK hi H locs hP hS ls hl)
theorem sw_dup2 (n : Nat) {v u : Value} (hd : decode y.2.1 pc = .ok (.dup2, 1)) (hn : pc + 1 = n) (hc : v.category = 1) (hc2 : u.category = 1) (k : sw_wp w X l d y Qc n lc (v :: u :: v :: u :: st) h) : sw_wp w X l d y Qc pc lc (v :: u :: st) h := by
  subst hn
  intro p e s m args below meth c s₁ B hml hK hi H locs hP hS ls hl
  exact lv_dup2_11 B.exec B.bytes hd (by rw [sw_cv_cat]; exact hc) (by rw [sw_cv_cat]; exact hc2) (k p e s m args below meth c s₁ B hml hK hi H locs hP hS ls hl)
theorem sw_goto (tgt : Nat) {off : Int} (hd : decode y.2.1 pc = .ok (.goto off, 3)) (ht : (pc : Int) + off = (tgt : Int)) (k : sw_wp w X l d y Qc tgt lc (st) h) : sw_wp w X l d y Qc pc lc (st) h := by
  intro p e s m args below meth c s₁ B hml hK hi H locs hP hS ls hl
  exact lv_goto B.exec B.bytes hd ht (k p e s m args below meth c s₁ B hml hK hi H locs hP hS ls hl)
theorem sw_if_eq (tgt n : Nat) {a : Int32} {off : Int} (hd : decode y.2.1 pc = .ok (.ifCond .eq off, 3)) (ht : (pc : Int) + off = (tgt : Int)) (hn : pc + 3 = n) (kt : a = 0 → sw_wp w X l d y Qc tgt lc (st) h) (kf : ¬ a = 0 → sw_wp w X l d y Qc n lc (st) h) : sw_wp w X l d y Qc pc lc (.int a :: st) h := by
  subst hn
  intro p e s m args below meth c s₁ B hml hK hi H locs hP hS ls hl
  exact lv_if_eq B.exec B.bytes hd ht (fun q => kt q p e s m args below meth c s₁ B hml hK hi H locs hP hS ls hl) (fun q => kf q p e s m args below meth c s₁ B hml hK hi H locs hP hS ls hl)
theorem sw_icmp_eq (tgt n : Nat) {a b : Int32} {off : Int} (hd : decode y.2.1 pc = .ok (.if_icmp .eq off, 3)) (ht : (pc : Int) + off = (tgt : Int)) (hn : pc + 3 = n) (kt : a = b → sw_wp w X l d y Qc tgt lc (st) h) (kf : ¬ a = b → sw_wp w X l d y Qc n lc (st) h) : sw_wp w X l d y Qc pc lc (.int b :: .int a :: st) h := by
  subst hn
  intro p e s m args below meth c s₁ B hml hK hi H locs hP hS ls hl
  exact lv_icmp_eq B.exec B.bytes hd ht (fun q => kt q p e s m args below meth c s₁ B hml hK hi H locs hP hS ls hl) (fun q => kf q p e s m args below meth c s₁ B hml hK hi H locs hP hS ls hl)
theorem sw_if_ne (tgt n : Nat) {a : Int32} {off : Int} (hd : decode y.2.1 pc = .ok (.ifCond .ne off, 3)) (ht : (pc : Int) + off = (tgt : Int)) (hn : pc + 3 = n) (kt : ¬ a = 0 → sw_wp w X l d y Qc tgt lc (st) h) (kf : a = 0 → sw_wp w X l d y Qc n lc (st) h) : sw_wp w X l d y Qc pc lc (.int a :: st) h := by
  subst hn
  intro p e s m args below meth c s₁ B hml hK hi H locs hP hS ls hl
  exact lv_if_ne B.exec B.bytes hd ht (fun q => kt q p e s m args below meth c s₁ B hml hK hi H locs hP hS ls hl) (fun q => kf q p e s m args below meth c s₁ B hml hK hi H locs hP hS ls hl)
theorem sw_icmp_ne (tgt n : Nat) {a b : Int32} {off : Int} (hd : decode y.2.1 pc = .ok (.if_icmp .ne off, 3)) (ht : (pc : Int) + off = (tgt : Int)) (hn : pc + 3 = n) (kt : ¬ a = b → sw_wp w X l d y Qc tgt lc (st) h) (kf : a = b → sw_wp w X l d y Qc n lc (st) h) : sw_wp w X l d y Qc pc lc (.int b :: .int a :: st) h := by
  subst hn
  intro p e s m args below meth c s₁ B hml hK hi H locs hP hS ls hl
  exact lv_icmp_ne B.exec B.bytes hd ht (fun q => kt q p e s m args below meth c s₁ B hml hK hi H locs hP hS ls hl) (fun q => kf q p e s m args below meth c s₁ B hml hK hi H locs hP hS ls hl)
theorem sw_if_lt (tgt n : Nat) {a : Int32} {off : Int} (hd : decode y.2.1 pc = .ok (.ifCond .lt off, 3)) (ht : (pc : Int) + off = (tgt : Int)) (hn : pc + 3 = n) (kt : a < 0 → sw_wp w X l d y Qc tgt lc (st) h) (kf : ¬ a < 0 → sw_wp w X l d y Qc n lc (st) h) : sw_wp w X l d y Qc pc lc (.int a :: st) h := by
  subst hn
  intro p e s m args below meth c s₁ B hml hK hi H locs hP hS ls hl
  exact lv_if_lt B.exec B.bytes hd ht (fun q => kt q p e s m args below meth c s₁ B hml hK hi H locs hP hS ls hl) (fun q => kf q p e s m args below meth c s₁ B hml hK hi H locs hP hS ls hl)
theorem sw_icmp_lt (tgt n : Nat) {a b : Int32} {off : Int} (hd : decode y.2.1 pc = .ok (.if_icmp .lt off, 3)) (ht : (pc : Int) + off = (tgt : Int)) (hn : pc + 3 = n) (kt : a < b → sw_wp w X l d y Qc tgt lc (st) h) (kf : ¬ a < b → sw_wp w X l d y Qc n lc (st) h) : sw_wp w X l d y Qc pc lc (.int b :: .int a :: st) h := by
  subst hn
  intro p e s m args below meth c s₁ B hml hK hi H locs hP hS ls hl
  exact lv_icmp_lt B.exec B.bytes hd ht (fun q => kt q p e s m args below meth c s₁ B hml hK hi H locs hP hS ls hl) (fun q => kf q p e s m args below meth c s₁ B hml hK hi H locs hP hS ls hl)
theorem sw_if_ge (tgt n : Nat) {a : Int32} {off : Int} (hd : decode y.2.1 pc = .ok (.ifCond .ge off, 3)) (ht : (pc : Int) + off = (tgt : Int)) (hn : pc + 3 = n) (kt : 0 ≤ a → sw_wp w X l d y Qc tgt lc (st) h) (kf : ¬ 0 ≤ a → sw_wp w X l d y Qc n lc (st) h) : sw_wp w X l d y Qc pc lc (.int a :: st) h := by
  subst hn
  intro p e s m args below meth c s₁ B hml hK hi H locs hP hS ls hl
  exact lv_if_ge B.exec B.bytes hd ht (fun q => kt q p e s m args below meth c s₁ B hml hK hi H locs hP hS ls hl) (fun q => kf q p e s m args below meth c s₁ B hml hK hi H locs hP hS ls hl)
theorem sw_icmp_ge (tgt n : Nat) {a b : Int32} {off : Int} (hd : decode y.2.1 pc = .ok (.if_icmp .ge off, 3)) (ht : (pc : Int) + off = (tgt : Int)) (hn : pc + 3 = n) (kt : b ≤ a → sw_wp w X l d y Qc tgt lc (st) h) (kf : ¬ b ≤ a → sw_wp w X l d y Qc n lc (st) h) : sw_wp w X l d y Qc pc lc (.int b :: .int a :: st) h := by
  subst hn
  intro p e s m args below meth c s₁ B hml hK hi H locs hP hS ls hl
  exact lv_icmp_ge B.exec B.bytes hd ht (fun q => kt q p e s m args below meth c s₁ B hml hK hi H locs hP hS ls hl) (fun q => kf q p e s m args below meth c s₁ B hml hK hi H locs hP hS ls hl)
theorem sw_if_gt (tgt n : Nat) {a : Int32} {off : Int} (hd : decode y.2.1 pc = .ok (.ifCond .gt off, 3)) (ht : (pc : Int) + off = (tgt : Int)) (hn : pc + 3 = n) (kt : 0 < a → sw_wp w X l d y Qc tgt lc (st) h) (kf : ¬ 0 < a → sw_wp w X l d y Qc n lc (st) h) : sw_wp w X l d y Qc pc lc (.int a :: st) h := by
  subst hn
  intro p e s m args below meth c s₁ B hml hK hi H locs hP hS ls hl
  exact lv_if_gt B.exec B.bytes hd ht (fun q => kt q p e s m args below meth c s₁ B hml hK hi H locs hP hS ls hl) (fun q => kf q p e s m args below meth c s₁ B hml hK hi H locs hP hS ls hl)
theorem sw_icmp_gt (tgt n : Nat) {a b : Int32} {off : Int} (hd : decode y.2.1 pc = .ok (.if_icmp .gt off, 3)) (ht : (pc : Int) + off = (tgt : Int)) (hn : pc + 3 = n) (kt : b < a → sw_wp w X l d y Qc tgt lc (st) h) (kf : ¬ b < a → sw_wp w X l d y Qc n lc (st) h) : sw_wp w X l d y Qc pc lc (.int b :: .int a :: st) h := by
  subst hn
  intro p e s m args below meth c s₁ B hml hK hi H locs hP hS ls hl
  exact lv_icmp_gt B.exec B.bytes hd ht (fun q => kt q p e s m args below meth c s₁ B hml hK hi H locs hP hS ls hl) (fun q => kf q p e s m args below meth c s₁ B hml hK hi H locs hP hS ls hl)
theorem sw_if_le (tgt n : Nat) {a : Int32} {off : Int} (hd : decode y.2.1 pc = .ok (.ifCond .le off, 3)) (ht : (pc : Int) + off = (tgt : Int)) (hn : pc + 3 = n) (kt : a ≤ 0 → sw_wp w X l d y Qc tgt lc (st) h) (kf : ¬ a ≤ 0 → sw_wp w X l d y Qc n lc (st) h) : sw_wp w X l d y Qc pc lc (.int a :: st) h := by
  subst hn
  intro p e s m args below meth c s₁ B hml hK hi H locs hP hS ls hl
  exact lv_if_le B.exec B.bytes hd ht (fun q => kt q p e s m args below meth c s₁ B hml hK hi H locs hP hS ls hl) (fun q => kf q p e s m args below meth c s₁ B hml hK hi H locs hP hS ls hl)
theorem sw_icmp_le (tgt n : Nat) {a b : Int32} {off : Int} (hd : decode y.2.1 pc = .ok (.if_icmp .le off, 3)) (ht : (pc : Int) + off = (tgt : Int)) (hn : pc + 3 = n) (kt : a ≤ b → sw_wp w X l d y Qc tgt lc (st) h) (kf : ¬ a ≤ b → sw_wp w X l d y Qc n lc (st) h) : sw_wp w X l d y Qc pc lc (.int b :: .int a :: st) h := by
  subst hn
  intro p e s m args below meth c s₁ B hml hK hi H locs hP hS ls hl
  exact lv_icmp_le B.exec B.bytes hd ht (fun q => kt q p e s m args below meth c s₁ B hml hK hi H locs hP hS ls hl) (fun q => kf q p e s m args below meth c s₁ B hml hK hi H locs hP hS ls hl)
theorem sw_tabIn (tgt : Nat) {dflt lo hi9 : Int} {offs : Array Int} {len : Nat} {a : Int32} {off : Int} (hd : decode y.2.1 pc = .ok (.tableswitch dflt lo hi9 offs, len)) (h1 : ¬ a.toInt < lo) (h2 : ¬ hi9 < a.toInt) (ho : offs[(a.toInt - lo).toNat]? = some off) (ht : (pc : Int) + off = (tgt : Int)) (k : sw_wp w X l d y Qc tgt lc (st) h) : sw_wp w X l d y Qc pc lc (.int a :: st) h := by
  intro p e s m args below meth c s₁ B hml hK hi H locs hP hS ls hl
  exact lv_tableIn B.exec B.bytes hd h1 h2 ho ht (k p e s m args below meth c s₁ B hml hK hi H locs hP hS ls hl)
theorem sw_tabOut (tgt : Nat) {dflt lo hi9 : Int} {offs : Array Int} {len : Nat} {a : Int32} (hd : decode y.2.1 pc = .ok (.tableswitch dflt lo hi9 offs, len)) (h1 : a.toInt < lo ∨ hi9 < a.toInt) (ht : (pc : Int) + dflt = (tgt : Int)) (k : sw_wp w X l d y Qc tgt lc (st) h) : sw_wp w X l d y Qc pc lc (.int a :: st) h := by
  intro p e s m args below meth c s₁ B hml hK hi H locs hP hS ls hl
  exact lv_tableOut B.exec B.bytes hd h1 ht (k p e s m args below meth c s₁ B hml hK hi H locs hP hS ls hl)
theorem sw_topI {a : Int32} (k : ∀ b : Int32, b = a → sw_wp w X l d y Qc pc lc (.int b :: st) h) : sw_wp w X l d y Qc pc lc (.int a :: st) h := k a rfl
theorem sw_topL {a : Int64} (k : ∀ b : Int64, b = a → sw_wp w X l d y Qc pc lc (.long b :: st) h) : sw_wp w X l d y Qc pc lc (.long a :: st) h := k a rfl
end sw_rules
