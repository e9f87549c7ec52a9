/-! THE RULES OF THE HEAP, OF RETURNS AND OF CALLS -/
def sw_cf (ci : Nat) (C : String) (T : u_T) (N : Nat) : Prop := sw_cl[ci]? = some (C, T, N) ∧ sw_nf ci = N ∧ (∀ w ∈ u_ws C T N, w ∈ sw_big) ∧ (∀ k, k < N → parseFieldDescriptor (T k).2.2.1 = some (sw_ty ci k)) ∧ (∀ a, a < N → ∀ b, b < N → a ≠ b → (T a).2.1 ≠ (T b).2.1)
/-- the entry idx of own's file is field k of class ci -/
def sw_gf (own : String) (idx ci k : Nat) : Prop := ∃ (C : String) (T : u_T) (N : Nat), sw_cf ci C T N ∧ k < N ∧ Cond.fieldLink own idx (T k).1 (T k).2.1 (T k).2.2.1 ∈ sw_big ∧ ((T k).2.2.2 = false ∨ True)
def sw_pf (own : String) (idx ci k : Nat) : Prop := ∃ (C : String) (T : u_T) (N : Nat), sw_cf ci C T N ∧ k < N ∧ Cond.fieldLink own idx (T k).1 (T k).2.1 (T k).2.2.1 ∈ sw_big ∧ (T k).2.2.2 = false
def sw_mv (own : String) (idx : Nat) (y : sw_M) (ci np : Nat) : Prop := ∃ (T : u_T) (N : Nat), sw_cl[ci]? = some (y.1.cls, T, N) ∧ (Cond.methodLink own idx y.1 ∈ sw_big ∧ Cond.instanceMethod y.1 ∈ sw_big ∧ Cond.selects y.1.cls y.1 y.1 ∈ sw_big ∧ Cond.initialized y.1.cls ∈ sw_big ∧ Cond.code y.1 y.2.1 y.2.2.1 y.2.2.2 ∈ sw_big) ∧ (y.1.cls ≠ "java/lang/invoke/MethodHandle" ∧ y.1.cls ≠ "java/lang/invoke/VarHandle" ∧ (parseMethodDescriptor y.1.desc).map (fun d => d.parameters.length) = some np) ∧ y.2.2.1 ≤ 21
def sw_ms (own : String) (idx : Nat) (y : sw_M) (np : Nat) : Prop := (Cond.methodLink own idx y.1 ∈ sw_big ∧ Cond.static y.1 ∈ sw_big ∧ Cond.initialized y.1.cls ∈ sw_big ∧ Cond.code y.1 y.2.1 y.2.2.1 y.2.2.2 ∈ sw_big) ∧ (y.1.cls ≠ "java/lang/invoke/MethodHandle" ∧ y.1.cls ≠ "java/lang/invoke/VarHandle" ∧ (parseMethodDescriptor y.1.desc).map (fun d => d.parameters.length) = some np) ∧ y.2.2.1 ≤ 21
/-- a nest mate's private static method -/
def sw_msN (own : String) (idx : Nat) (y : sw_M) (np : Nat) : Prop := ((∃ host, (own, idx, y.1, host) ∈ sw_nest) ∧ Cond.static y.1 ∈ sw_big ∧ Cond.initialized y.1.cls ∈ sw_big ∧ Cond.code y.1 y.2.1 y.2.2.1 y.2.2.2 ∈ sw_big) ∧ (y.1.cls ≠ "java/lang/invoke/MethodHandle" ∧ y.1.cls ≠ "java/lang/invoke/VarHandle" ∧ (parseMethodDescriptor y.1.desc).map (fun d => d.parameters.length) = some np) ∧ y.2.2.1 ≤ 21
theorem sw_mem {y : sw_M} {w : Cond} (h : w ∈ sw_big) : w ∈ sw_mw y := List.mem_cons_of_mem _ h
theorem sw_good {y y2 : sw_M} (hc : Cond.code y2.1 y2.2.1 y2.2.2.1 y2.2.2.2 ∈ sw_big) : GoodIn (sw_mw y) (sw_mw y2) := by
  intro u hu
  rcases List.mem_cons.mp hu with rfl | hu
  · exact ⟨sw_mem hc, sw_big_good hc⟩
  · exact ⟨sw_mem hu, sw_big_good hu⟩
theorem sw_good1 {y : sw_M} {u : Cond} (h : u ∈ sw_big) : u ∈ sw_mw y ∧ ((u.onTables && u.keeps) = true ∨ ∃ ty, u = .arrayClass ty) := ⟨sw_mem h, sw_big_good h⟩
section sw_heap
variable {w : sw_W} {X : sw_X} {l : Launch} {d : Nat} {y : sw_M} {Qc : sw_Q} {pc : Nat} {lc lc' : List (Nat × Value)} {st : List Value} {h : sw_H}
theorem sw_get0 {p : Program} {e : Env} {s : State} {m : MethodId} {args : Array Value} {below : List Frame} {meth : Method} {c : Code} {s₁ : State} {Q : State → Prop} {R : Room} {H : Heap} {locs : List Loc} {ls : Array Slot} {idx ci k a : Nat} {rest : List Value}
    (B : BodyLoose p l y.1 (headSpec (sw_mw y) (sw_rm d)) y.2.1 y.2.2.1 y.2.2.2 e s m args below meth c s₁) (hK : sw_K X s) (hP : va_P (X.1, X.2.1) sw_cl (sw_ws w X h) H) (hd : decode y.2.1 pc = .ok (.getfield idx, 3)) (g : sw_gf y.1.cls idx ci k) (ho : sw_o w a ci)
    (kk : W p l e R s m args below meth c H locs 0 0 Q (F0 m (pc + 3) ls (sw_v X.2.2.2 (sw_ty ci k) (h.1 a k) (h.2 a k) (w.2.2 a k) :: rest))) : W p l e R s m args below meth c H locs 0 0 Q (F0 m pc ls (.ref (X.2.2.2 a) :: rest)) := by
  obtain ⟨C, T, N, ⟨c1, c2, c3, c4, c5⟩, hk, hl, -⟩ := g
  have hts := atoms_spec (ws := sw_mw y) B.pre
  have hown : s.vm.findClass y.1.cls = some m.cls := findClass_of_methodNamed B.named
  have hat := sw_at (w := w) (X := X) (h := h) ho.1
  rw [sw_eO ho] at hat
  exact va_get (ci := ci) (C := C) (T := T) (N := N) B.exec B.bytes hts (fun u hu => sw_mem (c3 u hu)) hown hK.1 hP a hat c1 k hk (hts _ (sw_mem hl)) (fun _ h9 => h9) (sw_fs_at (by rw [c2]; exact hk)) hd kk
theorem sw_getI (n : Nat) {idx ci k a : Nat} (hd : decode y.2.1 pc = .ok (.getfield idx, 3)) (hn : pc + 3 = n) (g : sw_gf y.1.cls idx ci k) (ht : sw_ty ci k = .int) (ho : sw_o w a ci) (kk : sw_wp w X l d y Qc n lc (.int (h.1 a k) :: st) h) : sw_wp w X l d y Qc pc lc (.ref a :: st) h := by
  subst hn
  intro p e s m args below meth c s₁ B hml hK hi H locs hP hS ls hl
  exact sw_get0 B hK hP hd g ho (by rw [ht]; exact kk p e s m args below meth c s₁ B hml hK hi H locs hP hS ls hl)
theorem sw_getZ (n : Nat) {idx ci k a : Nat} (hd : decode y.2.1 pc = .ok (.getfield idx, 3)) (hn : pc + 3 = n) (g : sw_gf y.1.cls idx ci k) (ht : sw_ty ci k = .boolean) (ho : sw_o w a ci) (kk : sw_wp w X l d y Qc n lc (.int (h.1 a k) :: st) h) : sw_wp w X l d y Qc pc lc (.ref a :: st) h := by
  subst hn
  intro p e s m args below meth c s₁ B hml hK hi H locs hP hS ls hl
  exact sw_get0 B hK hP hd g ho (by rw [ht]; exact kk p e s m args below meth c s₁ B hml hK hi H locs hP hS ls hl)
theorem sw_getL (n : Nat) {idx ci k a : Nat} (hd : decode y.2.1 pc = .ok (.getfield idx, 3)) (hn : pc + 3 = n) (g : sw_gf y.1.cls idx ci k) (ht : sw_ty ci k = .long) (ho : sw_o w a ci) (kk : sw_wp w X l d y Qc n lc (.long (h.2 a k) :: st) h) : sw_wp w X l d y Qc pc lc (.ref a :: st) h := by
  subst hn
  intro p e s m args below meth c s₁ B hml hK hi H locs hP hS ls hl
  exact sw_get0 B hK hP hd g ho (by rw [ht]; exact kk p e s m args below meth c s₁ B hml hK hi H locs hP hS ls hl)
theorem sw_getR (n : Nat) {idx ci k a : Nat} (hd : decode y.2.1 pc = .ok (.getfield idx, 3)) (hn : pc + 3 = n) (g : sw_gf y.1.cls idx ci k) (ht : ∀ (σ : Nat → Nat) (i : Int32) (j : Int64) (r : Nat), sw_v σ (sw_ty ci k) i j r = .ref (σ r)) (ho : sw_o w a ci) {b : Nat} (hb : w.2.2 a k = b) (kk : sw_wp w X l d y Qc n lc (.ref b :: st) h) : sw_wp w X l d y Qc pc lc (.ref a :: st) h := by
  subst hn
  subst hb
  intro p e s m args below meth c s₁ B hml hK hi H locs hP hS ls hl
  exact sw_get0 B hK hP hd g ho (by rw [ht]; exact kk p e s m args below meth c s₁ B hml hK hi H locs hP hS ls hl)
theorem sw_putI (n : Nat) {idx ci k a : Nat} {x : Int32} (hd : decode y.2.1 pc = .ok (.putfield idx, 3)) (hn : pc + 3 = n) (g : sw_pf y.1.cls idx ci k) (ht : sw_ty ci k = .int) (ho : sw_o w a ci) (kk : sw_wp w X l d y Qc n lc st (sw_wI h a k x)) : sw_wp w X l d y Qc pc lc (.int x :: .ref a :: st) h := by
  subst hn
  intro p e s m args below meth c s₁ B hml hK hi H locs hP hS ls hl
  obtain ⟨C, T, N, ⟨c1, c2, c3, c4, c5⟩, hk, hl2, hfin⟩ := g
  have hts := atoms_spec (ws := sw_mw y) B.pre
  have hown : s.vm.findClass y.1.cls = some m.cls := findClass_of_methodNamed B.named
  have hat := sw_at (w := w) (X := X) (h := h) ho.1
  rw [sw_eO ho] at hat
  refine va_put (ci := ci) (C := C) (T := T) (N := N) (v := .int x) (ty := .int) B.exec B.bytes hts (fun u hu => sw_mem (c3 u hu)) (sw_ty ci) c4 c5 hown hK.1 hP (sw_D hi) hS a hat c1 k hk (hts _ (sw_mem hl2)) (fun _ h9 => h9) hfin (by rw [c4 k hk, ht]) rfl rfl (by rw [sw_fs_len, c2]; exact hk) hd (fun H1 locs1 hP1 hD1 hS1 => ?_)
  rw [sw_set (w := w) (X := X) (a := a) (h := h) (h' := sw_wI h a k x) (by
    rw [sw_eO ho, sw_fs_set (k := k) (v := .int x) (h := h) (by rw [ht, sw_wI_at]; simp [sw_v, va_up]) (fun j hj => by rw [sw_wI_at]; exact ⟨by simp [va_up, hj], rfl⟩)]) (fun b hb => sw_e_ne (sw_wI_ne hb) rfl)] at hP1
  exact kk p e s m args below meth c s₁ B hml hK hi H1 locs1 hP1 hS1 ls hl
theorem sw_putZ (n : Nat) {idx ci k a : Nat} {x : Int32} (hx : x = 0 ∨ x = 1) (hd : decode y.2.1 pc = .ok (.putfield idx, 3)) (hn : pc + 3 = n) (g : sw_pf y.1.cls idx ci k) (ht : sw_ty ci k = .boolean) (ho : sw_o w a ci) (kk : sw_wp w X l d y Qc n lc st (sw_wI h a k x)) : sw_wp w X l d y Qc pc lc (.int x :: .ref a :: st) h := by
  subst hn
  intro p e s m args below meth c s₁ B hml hK hi H locs hP hS ls hl
  obtain ⟨C, T, N, ⟨c1, c2, c3, c4, c5⟩, hk, hl2, hfin⟩ := g
  have hts := atoms_spec (ws := sw_mw y) B.pre
  have hown : s.vm.findClass y.1.cls = some m.cls := findClass_of_methodNamed B.named
  have hat := sw_at (w := w) (X := X) (h := h) ho.1
  rw [sw_eO ho] at hat
  refine va_put (ci := ci) (C := C) (T := T) (N := N) (v := .int x) (ty := .boolean) B.exec B.bytes hts (fun u hu => sw_mem (c3 u hu)) (sw_ty ci) c4 c5 hown hK.1 hP (sw_D hi) hS a hat c1 k hk (hts _ (sw_mem hl2)) (fun _ h9 => h9) hfin (by rw [c4 k hk, ht]) (by rcases hx with rfl | rfl <;> rfl) (by rcases hx with rfl | rfl <;> rfl) (by rw [sw_fs_len, c2]; exact hk) hd (fun H1 locs1 hP1 hD1 hS1 => ?_)
  rw [sw_set (w := w) (X := X) (a := a) (h := h) (h' := sw_wI h a k x) (by
    rw [sw_eO ho, sw_fs_set (k := k) (v := .int x) (h := h) (by rw [ht, sw_wI_at]; simp [sw_v, va_up]) (fun j hj => by rw [sw_wI_at]; exact ⟨by simp [va_up, hj], rfl⟩)]) (fun b hb => sw_e_ne (sw_wI_ne hb) rfl)] at hP1
  exact kk p e s m args below meth c s₁ B hml hK hi H1 locs1 hP1 hS1 ls hl
theorem sw_putL (n : Nat) {idx ci k a : Nat} {x : Int64} (hd : decode y.2.1 pc = .ok (.putfield idx, 3)) (hn : pc + 3 = n) (g : sw_pf y.1.cls idx ci k) (ht : sw_ty ci k = .long) (ho : sw_o w a ci) (kk : sw_wp w X l d y Qc n lc st (sw_wL h a k x)) : sw_wp w X l d y Qc pc lc (.long x :: .ref a :: st) h := by
  subst hn
  intro p e s m args below meth c s₁ B hml hK hi H locs hP hS ls hl
  obtain ⟨C, T, N, ⟨c1, c2, c3, c4, c5⟩, hk, hl2, hfin⟩ := g
  have hts := atoms_spec (ws := sw_mw y) B.pre
  have hown : s.vm.findClass y.1.cls = some m.cls := findClass_of_methodNamed B.named
  have hat := sw_at (w := w) (X := X) (h := h) ho.1
  rw [sw_eO ho] at hat
  refine va_put (ci := ci) (C := C) (T := T) (N := N) (v := .long x) (ty := .long) B.exec B.bytes hts (fun u hu => sw_mem (c3 u hu)) (sw_ty ci) c4 c5 hown hK.1 hP (sw_D hi) hS a hat c1 k hk (hts _ (sw_mem hl2)) (fun _ h9 => h9) hfin (by rw [c4 k hk, ht]) rfl rfl (by rw [sw_fs_len, c2]; exact hk) hd (fun H1 locs1 hP1 hD1 hS1 => ?_)
  rw [sw_set (w := w) (X := X) (a := a) (h := h) (h' := sw_wL h a k x) (by
    rw [sw_eO ho, sw_fs_set (k := k) (v := .long x) (h := h) (by rw [ht, sw_wL_at]; simp [sw_v, va_up]) (fun j hj => by rw [sw_wL_at]; exact ⟨rfl, by simp [va_up, hj]⟩)]) (fun b hb => sw_e_ne rfl (sw_wL_ne hb))] at hP1
  exact kk p e s m args below meth c s₁ B hml hK hi H1 locs1 hP1 hS1 ls hl
-- arrays
theorem sw_iald (n : Nat) {a z : Nat} {i : Int32} (hd : decode y.2.1 pc = .ok (.iaload, 1)) (hn : pc + 1 = n) (ho : sw_r w a 0 z) (hin : vp_in i z) (kk : sw_wp w X l d y Qc n lc (.int (h.1 a i.toNatClampNeg) :: st) h) : sw_wp w X l d y Qc pc lc (.int i :: .ref a :: st) h := by
  subst hn
  intro p e s m args below meth c s₁ B hml hK hi H locs hP hS ls hl
  have hat := sw_at (w := w) (X := X) (h := h) ho.1
  rw [sw_eR ho] at hat
  exact va_iald B.exec B.bytes hK.1 hP a 0 hat rfl hin hd (kk p e s m args below meth c s₁ B hml hK hi H locs hP hS ls hl)
theorem sw_zald (n : Nat) {a z : Nat} {i : Int32} (hd : decode y.2.1 pc = .ok (.baload, 1)) (hn : pc + 1 = n) (ho : sw_r w a 2 z) (hin : vp_in i z) (kk : sw_wp w X l d y Qc n lc (.int (h.1 a i.toNatClampNeg) :: st) h) : sw_wp w X l d y Qc pc lc (.int i :: .ref a :: st) h := by
  subst hn
  intro p e s m args below meth c s₁ B hml hK hi H locs hP hS ls hl
  have hat := sw_at (w := w) (X := X) (h := h) ho.1
  rw [sw_eR ho] at hat
  exact va_zald B.exec B.bytes hK.1 hP a 2 hat rfl hin hd (kk p e s m args below meth c s₁ B hml hK hi H locs hP hS ls hl)
theorem sw_lald (n : Nat) {a z : Nat} {i : Int32} (hd : decode y.2.1 pc = .ok (.laload, 1)) (hn : pc + 1 = n) (ho : sw_r w a 1 z) (hin : vp_in i z) (kk : sw_wp w X l d y Qc n lc (.long (h.2 a i.toNatClampNeg) :: st) h) : sw_wp w X l d y Qc pc lc (.int i :: .ref a :: st) h := by
  subst hn
  intro p e s m args below meth c s₁ B hml hK hi H locs hP hS ls hl
  have hat := sw_at (w := w) (X := X) (h := h) ho.1
  rw [sw_eR ho] at hat
  exact va_lald B.exec B.bytes hK.1 hP a 1 hat rfl hin hd (kk p e s m args below meth c s₁ B hml hK hi H locs hP hS ls hl)
theorem sw_aald (n : Nat) {a t z b : Nat} {i : Int32} (hd : decode y.2.1 pc = .ok (.aaload, 1)) (hn : pc + 1 = n) (ho : sw_r w a (t + 3) z) (ht : t < 4) (hin : vp_in i z) (hb : w.2.2 a i.toNatClampNeg = b) (kk : sw_wp w X l d y Qc n lc (.ref b :: st) h) : sw_wp w X l d y Qc pc lc (.int i :: .ref a :: st) h := by
  subst hn
  subst hb
  intro p e s m args below meth c s₁ B hml hK hi H locs hP hS ls hl
  have hat := sw_at (w := w) (X := X) (h := h) ho.1
  rw [sw_eR ho] at hat
  have hlt : i.toNatClampNeg < z := Nat.not_le.mp fun q => hin (Or.inr q)
  have fin : ∀ {ty : FieldType}, (sw_ts X)[t + 3]? = some (X.2.2.1 (t + 3), ty) → ty.isReference = true → W p l e (sw_rm d) s m args below meth c H locs 0 0 (MQ below Qc args s 0 0 (sw_A w X)) (F0 m pc ls (List.map (sw_cv X.2.2.2) (.int i :: .ref a :: st))) := by
    intro ty ht1 ht2
    refine W.aald (v := .ref (X.2.2.2 (w.2.2 a i.toNatClampNeg))) (ty := ty) B.exec B.bytes (hP a _ hat) ((hK.1.2 _ _ ht1).1 z (fun j => .ref (X.2.2.2 (w.2.2 a j)))) ht2 (fun q => by cases q) (by show ¬ (i < 0 ∨ (arrV _ _ _).slots.size ≤ _); rw [arrV_size]; exact hin) (by show (arrV _ _ _).slots[_]? = _; rw [arrV_read _ _ hlt]; rfl) rfl rfl hd (kk p e s m args below meth c s₁ B hml hK hi H locs hP hS ls hl)
  match t, ht with
  | 0, _ => exact fin rfl rfl
  | 1, _ => exact fin rfl rfl
  | 2, _ => exact fin rfl rfl
  | 3, _ => exact fin rfl rfl
theorem sw_upd (f : Nat → Int32) (k : Nat) (x : Int32) : upd f k x = va_up f k x := rfl
theorem sw_updL (f : Nat → Int64) (k : Nat) (x : Int64) : vp_updL f k x = va_up f k x := rfl
theorem sw_iast (n : Nat) {a z : Nat} {i x : Int32} (hd : decode y.2.1 pc = .ok (.iastore, 1)) (hn : pc + 1 = n) (ho : sw_r w a 0 z) (hin : vp_in i z) (kk : sw_wp w X l d y Qc n lc st (sw_wI h a i.toNatClampNeg x)) : sw_wp w X l d y Qc pc lc (.int x :: .int i :: .ref a :: st) h := by
  subst hn
  intro p e s m args below meth c s₁ B hml hK hi H locs hP hS ls hl
  have hat := sw_at (w := w) (X := X) (h := h) ho.1
  rw [sw_eR ho] at hat
  refine va_iast B.exec B.bytes hK.1 hP (sw_D hi) hS a 0 hat rfl hin hd (fun H1 locs1 hP1 hD1 hS1 => ?_)
  rw [sw_set (w := w) (X := X) (a := a) (h := h) (h' := sw_wI h a i.toNatClampNeg x) (by rw [sw_eR ho]; simp only [sw_ar, sw_wI_at, sw_upd]) (fun b hb => sw_e_ne (sw_wI_ne hb) rfl)] at hP1
  exact kk p e s m args below meth c s₁ B hml hK hi H1 locs1 hP1 hS1 ls hl
theorem sw_zast (n : Nat) {a z : Nat} {i x : Int32} (hx : x = 0 ∨ x = 1) (hd : decode y.2.1 pc = .ok (.bastore, 1)) (hn : pc + 1 = n) (ho : sw_r w a 2 z) (hin : vp_in i z) (kk : sw_wp w X l d y Qc n lc st (sw_wI h a i.toNatClampNeg x)) : sw_wp w X l d y Qc pc lc (.int x :: .int i :: .ref a :: st) h := by
  subst hn
  intro p e s m args below meth c s₁ B hml hK hi H locs hP hS ls hl
  have hat := sw_at (w := w) (X := X) (h := h) ho.1
  rw [sw_eR ho] at hat
  have hx2 : vp_nar .boolean x = x := by rcases hx with rfl | rfl <;> rfl
  refine va_zast B.exec B.bytes hK.1 hP (sw_D hi) hS a 2 hat rfl hin hd (fun H1 locs1 hP1 hD1 hS1 => ?_)
  rw [hx2, sw_set (w := w) (X := X) (a := a) (h := h) (h' := sw_wI h a i.toNatClampNeg x) (by rw [sw_eR ho]; simp only [sw_ar, sw_wI_at, sw_upd]) (fun b hb => sw_e_ne (sw_wI_ne hb) rfl)] at hP1
  exact kk p e s m args below meth c s₁ B hml hK hi H1 locs1 hP1 hS1 ls hl
theorem sw_last (n : Nat) {a z : Nat} {i : Int32} {x : Int64} (hd : decode y.2.1 pc = .ok (.lastore, 1)) (hn : pc + 1 = n) (ho : sw_r w a 1 z) (hin : vp_in i z) (kk : sw_wp w X l d y Qc n lc st (sw_wL h a i.toNatClampNeg x)) : sw_wp w X l d y Qc pc lc (.long x :: .int i :: .ref a :: st) h := by
  subst hn
  intro p e s m args below meth c s₁ B hml hK hi H locs hP hS ls hl
  have hat := sw_at (w := w) (X := X) (h := h) ho.1
  rw [sw_eR ho] at hat
  refine va_last B.exec B.bytes hK.1 hP (sw_D hi) hS a 1 hat rfl hin hd (fun H1 locs1 hP1 hD1 hS1 => ?_)
  rw [sw_set (w := w) (X := X) (a := a) (h := h) (h' := sw_wL h a i.toNatClampNeg x) (by rw [sw_eR ho]; simp only [sw_ar, sw_wL_at, sw_updL]) (fun b hb => sw_e_ne rfl (sw_wL_ne hb))] at hP1
  exact kk p e s m args below meth c s₁ B hml hK hi H1 locs1 hP1 hS1 ls hl
theorem sw_alen (n : Nat) {a t z : Nat} (hd : decode y.2.1 pc = .ok (.arraylength, 1)) (hn : pc + 1 = n) (ho : sw_r w a t z) (ht : t < 7) (kk : sw_wp w X l d y Qc n lc (.int (Int32.ofNat z) :: st) h) : sw_wp w X l d y Qc pc lc (.ref a :: st) h := by
  subst hn
  intro p e s m args below meth c s₁ B hml hK hi H locs hP hS ls hl
  have hat := sw_at (w := w) (X := X) (h := h) ho.1
  rw [sw_eR ho] at hat
  have hq : ∃ ty, (sw_ts X)[t]? = some (X.2.2.1 t, ty) := by
    match t, ht with
    | 0, _ => exact ⟨_, rfl⟩
    | 1, _ => exact ⟨_, rfl⟩
    | 2, _ => exact ⟨_, rfl⟩
    | 3, _ => exact ⟨_, rfl⟩
    | 4, _ => exact ⟨_, rfl⟩
    | 5, _ => exact ⟨_, rfl⟩
    | 6, _ => exact ⟨_, rfl⟩
  obtain ⟨ty, hq⟩ := hq
  exact va_alen B.exec B.bytes hK.1 hP a t hat hq rfl hd (kk p e s m args below meth c s₁ B hml hK hi H locs hP hS ls hl)
-- returns
theorem sw_iret {Q : Int32 → sw_H → Prop} {x : Int32} (hd : decode y.2.1 pc = .ok (.ireturn, 1)) (hr : y.2.2.2 = some .int) (hQ : Q x h) : sw_wp w X l d y (sw_qI w X Q) pc lc [.int x] h := by
  intro p e s m args below meth c s₁ B hml hK hi H locs hP hS ls hl
  have hr2 : meth.sig.returnType = some .int := by rw [B.returns, hr]
  exact W.iret (v := x) B.exec B.bytes hr2 (fun t ht hW => ⟨⟨x, h, rfl, hQ, by rw [ht]; exact hP, sw_K.warm hW hK, hi⟩, hS.F ht⟩) hS.2.2 hd B.notSynchronized
theorem sw_zret {Q : Int32 → sw_H → Prop} {x : Int32} (hx : x = 0 ∨ x = 1) (hd : decode y.2.1 pc = .ok (.ireturn, 1)) (hr : y.2.2.2 = some .boolean) (hQ : Q x h) : sw_wp w X l d y (sw_qI w X Q) pc lc [.int x] h := by
  intro p e s m args below meth c s₁ B hml hK hi H locs hP hS ls hl
  have hr2 : meth.sig.returnType = some .boolean := by rw [B.returns, hr]
  exact W.zret (v := x) B.exec B.bytes hr2 (by rcases hx with rfl | rfl <;> rfl) (fun t ht hW => ⟨⟨x, h, rfl, hQ, by rw [ht]; exact hP, sw_K.warm hW hK, hi⟩, hS.F ht⟩) hS.2.2 hd B.notSynchronized
theorem sw_lret {Q : Int64 → sw_H → Prop} {x : Int64} (hd : decode y.2.1 pc = .ok (.lreturn, 1)) (hr : y.2.2.2 = some .long) (hQ : Q x h) : sw_wp w X l d y (sw_qL w X Q) pc lc [.long x] h := by
  intro p e s m args below meth c s₁ B hml hK hi H locs hP hS ls hl
  have hr2 : meth.sig.returnType = some .long := by rw [B.returns, hr]
  exact W.lret (v := x) B.exec B.bytes hr2 (fun t ht hW => ⟨⟨x, h, rfl, hQ, by rw [ht]; exact hP, sw_K.warm hW hK, hi⟩, hS.F ht⟩) hS.2.2 hd B.notSynchronized
theorem sw_vret {Q : sw_H → Prop} (hd : decode y.2.1 pc = .ok (.return_, 1)) (hr : y.2.2.2 = none) (hQ : Q h) : sw_wp w X l d y (sw_qV w X Q) pc lc [] h := by
  intro p e s m args below meth c s₁ B hml hK hi H locs hP hS ls hl
  have hr2 : meth.sig.returnType = none := by rw [B.returns, hr]
  exact W.vret B.exec B.bytes hr2 (fun t ht hW => ⟨⟨h, rfl, hQ, by rw [ht]; exact hP, sw_K.warm hW hK, hi⟩, hS.F ht⟩) hS.2.2 hd B.notSynchronized
theorem sw_aret {Q : Nat → sw_H → Prop} {a : Nat} {C : String} (hd : decode y.2.1 pc = .ok (.areturn, 1)) (hr : y.2.2.2 = some (.object C)) (hQ : Q a h) : sw_wp w X l d y (sw_qR w X Q) pc lc [.ref a] h := by
  intro p e s m args below meth c s₁ B hml hK hi H locs hP hS ls hl
  have hr2 : meth.sig.returnType = some (.object C) := by rw [B.returns, hr]
  exact W.aret (v := .ref (X.2.2.2 a)) B.exec B.bytes hr2 (Or.inl ⟨C, rfl⟩) (Or.inr ⟨_, rfl⟩) (fun t ht hW => ⟨⟨(a, h), X.2.2.2 a, rfl, hQ, rfl, by rw [ht]; exact hP, sw_K.warm hW hK, hi⟩, hS.F ht⟩) hS.2.2 hd B.notSynchronized
end sw_heap
