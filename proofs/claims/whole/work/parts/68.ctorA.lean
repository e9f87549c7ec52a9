/-! CONSTRUCTORS (by program): the class -/
/-- ints and longs of a new object -/
def h0A : sw_H := (fun a => if a ∈ [8, 10, 12, 14, 23, 25, 27, 29, 60, 68] then (fun k => if k = 1 then 1 else 0) else if a ∈ [45, 48, 51, 54, 57] then (fun k => if k = 2 then 3 else 0) else if a = 75 then (fun j => if j < 3 then -1 else 0) else fun _ => 0, fun a => if a ∈ [36, 62] then (fun k => if k = 0 then 0 else 1) else fun _ => 0)
abbrev xU (X : sw_X) (u : Nat → Nat) : sw_X := (X.1, X.2.1, X.2.2.1, u)
theorem kX11 {X : sw_X} {l : Launch} {d : Nat} (h0 : Nat) : cn_ct X l (d + 3) mX11_init [.ref h0] [(h0, .inr (11, [.null, .null, .null, .null, .null, .null, .null, .null, .null, .null, .null, .int 0, .int 0, .int 0, .int 0]))] (fun u => sw_ws wA (xU X u) h0A) h0 75 2145 := by
  refine cn_ct_of (by decide +kernel) (Nat.le_of_ble_eq_true rfl) rfl (fun sz => ?_)
  refine cn_aload 1 0 dX11_init_0 rfl rfl ?_
  refine cn_obj 4 kI_RX11_3 ko_ins ko_cod dX11_init_1 rfl ?_
  refine cn_aload 5 0 dX11_init_4 rfl rfl ?_
  refine cn_new 8 cf_3 kC_RX11_9 kt_3 kn_RX3 [.null, .null, .null] (fun j hj => by rcases (show j = 0 ∨ j = 1 ∨ j = 2 by omega) with rfl | rfl | rfl <;> rfl) dX11_init_5 rfl (Nat.le_of_ble_eq_true rfl) (Nat.le_of_ble_eq_true rfl) (fun q0 => ?_)
  refine cn_dup 9 dX11_init_8 rfl rfl ?_
  refine cn_ctor (y2 := mX3_init) (np := 0) (As := []) 12 (Or.inl kI_RX11_11) kn_RX3 ki_X3_init kc_X3_init rfl rfl ⟨by decide +kernel, by decide +kernel, by decide +kernel⟩ (by decide) (kX3 _) rfl rfl (Nat.le_of_ble_eq_true rfl) dX11_init_9 rfl (Nat.le_of_ble_eq_true rfl) (Nat.le_of_ble_eq_true rfl) (fun u1 hu1 => ?_)
  subst hu1
  refine cn_eqw (ws' := ((h0, .inr (11, [.null, .null, .null, .null, .null, .null, .null, .null, .null, .null, .null, .int 0, .int 0, .int 0, .int 0])) :: cw_3 X u1)) rfl ?_
  refine cn_putF 15 0 cp_RX11_12 rfl rfl rfl rfl (Nat.le_of_ble_eq_true rfl) dX11_init_12 rfl ?_
  refine cn_eqw (ws' := ((h0, .inr (11, [.ref (u1 0), .null, .null, .null, .null, .null, .null, .null, .null, .null, .null, .int 0, .int 0, .int 0, .int 0])) :: cw_3 X u1)) rfl ?_
  refine cn_aload 16 0 dX11_init_15 rfl rfl ?_
  refine cn_new 19 cf_3 kC_RX11_9 kt_3 kn_RX3 [.null, .null, .null] (fun j hj => by rcases (show j = 0 ∨ j = 1 ∨ j = 2 by omega) with rfl | rfl | rfl <;> rfl) dX11_init_16 rfl (Nat.le_of_ble_eq_true rfl) (Nat.le_of_ble_eq_true rfl) (fun q2 => ?_)
  refine cn_dup 20 dX11_init_19 rfl rfl ?_
  refine cn_ctor (y2 := mX3_init) (np := 0) (As := []) 23 (Or.inl kI_RX11_11) kn_RX3 ki_X3_init kc_X3_init rfl rfl ⟨by decide +kernel, by decide +kernel, by decide +kernel⟩ (by decide) (kX3 _) rfl rfl (Nat.le_of_ble_eq_true rfl) dX11_init_20 rfl (Nat.le_of_ble_eq_true rfl) (Nat.le_of_ble_eq_true rfl) (fun u3 hu3 => ?_)
  subst hu3
  refine cn_eqw (ws' := ((h0, .inr (11, [.ref (u1 0), .null, .null, .null, .null, .null, .null, .null, .null, .null, .null, .int 0, .int 0, .int 0, .int 0])) :: (cw_3 X u1 ++ cw_3 X u3))) rfl ?_
  refine cn_putF 26 0 cp_RX11_18 rfl rfl rfl rfl (Nat.le_of_ble_eq_true rfl) dX11_init_23 rfl ?_
  refine cn_eqw (ws' := ((h0, .inr (11, [.ref (u1 0), .ref (u3 0), .null, .null, .null, .null, .null, .null, .null, .null, .null, .int 0, .int 0, .int 0, .int 0])) :: (cw_3 X u1 ++ cw_3 X u3))) rfl ?_
  refine cn_aload 27 0 dX11_init_26 rfl rfl ?_
  refine cn_new 30 cf_0 kC_RX11_21 kt_0 kn_RX0 [.null, .null, .null, .null, .null, .int 0, .int 0] (fun j hj => by rcases (show j = 0 ∨ j = 1 ∨ j = 2 ∨ j = 3 ∨ j = 4 ∨ j = 5 ∨ j = 6 by omega) with rfl | rfl | rfl | rfl | rfl | rfl | rfl <;> rfl) dX11_init_27 rfl (Nat.le_of_ble_eq_true rfl) (Nat.le_of_ble_eq_true rfl) (fun q4 => ?_)
  refine cn_dup 31 dX11_init_30 rfl rfl ?_
  refine cn_ctor (y2 := mX0_init) (np := 0) (As := []) 34 (Or.inr ⟨RX11, List.mem_of_getElem? (i := 3) rfl⟩) kn_RX0 ki_X0_init kc_X0_init rfl rfl ⟨by decide +kernel, by decide +kernel, by decide +kernel⟩ (by decide) (kX0 _) rfl rfl (Nat.le_of_ble_eq_true rfl) dX11_init_31 rfl (Nat.le_of_ble_eq_true rfl) (Nat.le_of_ble_eq_true rfl) (fun u5 hu5 => ?_)
  subst hu5
  refine cn_eqw (ws' := ((h0, .inr (11, [.ref (u1 0), .ref (u3 0), .null, .null, .null, .null, .null, .null, .null, .null, .null, .int 0, .int 0, .int 0, .int 0])) :: (cw_3 X u1 ++ (cw_3 X u3 ++ cw_0 X u5)))) rfl ?_
  refine cn_putF 37 0 cp_RX11_24 rfl rfl rfl rfl (Nat.le_of_ble_eq_true rfl) dX11_init_34 rfl ?_
  refine cn_eqw (ws' := ((h0, .inr (11, [.ref (u1 0), .ref (u3 0), .ref (u5 0), .null, .null, .null, .null, .null, .null, .null, .null, .int 0, .int 0, .int 0, .int 0])) :: (cw_3 X u1 ++ (cw_3 X u3 ++ cw_0 X u5)))) rfl ?_
  refine cn_aload 38 0 dX11_init_37 rfl rfl ?_
  refine cn_new 41 cf_8 kC_RX11_28 kt_8 kn_RX8 [.null, .null, .int 0] (fun j hj => by rcases (show j = 0 ∨ j = 1 ∨ j = 2 by omega) with rfl | rfl | rfl <;> rfl) dX11_init_38 rfl (Nat.le_of_ble_eq_true rfl) (Nat.le_of_ble_eq_true rfl) (fun q6 => ?_)
  refine cn_dup 42 dX11_init_41 rfl rfl ?_
  refine cn_ctor (y2 := mX8_init) (np := 0) (As := []) 45 (Or.inl kI_RX11_30) kn_RX8 ki_X8_init kc_X8_init rfl rfl ⟨by decide +kernel, by decide +kernel, by decide +kernel⟩ (by decide) (kX8 _) rfl rfl (Nat.le_of_ble_eq_true rfl) dX11_init_42 rfl (Nat.le_of_ble_eq_true rfl) (Nat.le_of_ble_eq_true rfl) (fun u7 hu7 => ?_)
  subst hu7
  refine cn_eqw (ws' := ((h0, .inr (11, [.ref (u1 0), .ref (u3 0), .ref (u5 0), .null, .null, .null, .null, .null, .null, .null, .null, .int 0, .int 0, .int 0, .int 0])) :: (cw_3 X u1 ++ (cw_3 X u3 ++ (cw_0 X u5 ++ cw_8 X u7))))) rfl ?_
  refine cn_putF 48 0 cp_RX11_31 rfl rfl rfl rfl (Nat.le_of_ble_eq_true rfl) dX11_init_45 rfl ?_
  refine cn_eqw (ws' := ((h0, .inr (11, [.ref (u1 0), .ref (u3 0), .ref (u5 0), .ref (u7 0), .null, .null, .null, .null, .null, .null, .null, .int 0, .int 0, .int 0, .int 0])) :: (cw_3 X u1 ++ (cw_3 X u3 ++ (cw_0 X u5 ++ cw_8 X u7))))) rfl ?_
  refine cn_aload 49 0 dX11_init_48 rfl rfl ?_
  refine cn_new 52 cf_5 kC_RX11_35 kt_5 kn_RX5 [.null, .null, .int 0, .int 0] (fun j hj => by rcases (show j = 0 ∨ j = 1 ∨ j = 2 ∨ j = 3 by omega) with rfl | rfl | rfl | rfl <;> rfl) dX11_init_49 rfl (Nat.le_of_ble_eq_true rfl) (Nat.le_of_ble_eq_true rfl) (fun q8 => ?_)
  refine cn_dup 53 dX11_init_52 rfl rfl ?_
  refine cn_ctor (y2 := mX5_init) (np := 0) (As := []) 56 (Or.inr ⟨RX11, List.mem_of_getElem? (i := 6) rfl⟩) kn_RX5 ki_X5_init kc_X5_init rfl rfl ⟨by decide +kernel, by decide +kernel, by decide +kernel⟩ (by decide) (kX5 _) rfl rfl (Nat.le_of_ble_eq_true rfl) dX11_init_53 rfl (Nat.le_of_ble_eq_true rfl) (Nat.le_of_ble_eq_true rfl) (fun u9 hu9 => ?_)
  subst hu9
  refine cn_eqw (ws' := ((h0, .inr (11, [.ref (u1 0), .ref (u3 0), .ref (u5 0), .ref (u7 0), .null, .null, .null, .null, .null, .null, .null, .int 0, .int 0, .int 0, .int 0])) :: (cw_3 X u1 ++ (cw_3 X u3 ++ (cw_0 X u5 ++ (cw_8 X u7 ++ cw_5 X u9)))))) rfl ?_
  refine cn_putF 59 0 cp_RX11_38 rfl rfl rfl rfl (Nat.le_of_ble_eq_true rfl) dX11_init_56 rfl ?_
  refine cn_eqw (ws' := ((h0, .inr (11, [.ref (u1 0), .ref (u3 0), .ref (u5 0), .ref (u7 0), .ref (u9 0), .null, .null, .null, .null, .null, .null, .int 0, .int 0, .int 0, .int 0])) :: (cw_3 X u1 ++ (cw_3 X u3 ++ (cw_0 X u5 ++ (cw_8 X u7 ++ cw_5 X u9)))))) rfl ?_
  refine cn_aload 60 0 dX11_init_59 rfl rfl ?_
  refine cn_new 63 cf_10 kC_RX11_42 kt_10 kn_RX10 [.null, .int 0] (fun j hj => by rcases (show j = 0 ∨ j = 1 by omega) with rfl | rfl <;> rfl) dX11_init_60 rfl (Nat.le_of_ble_eq_true rfl) (Nat.le_of_ble_eq_true rfl) (fun q10 => ?_)
  refine cn_dup 64 dX11_init_63 rfl rfl ?_
  refine cn_ctor (y2 := mX10_init) (np := 0) (As := []) 67 (Or.inr ⟨RX11, List.mem_of_getElem? (i := 7) rfl⟩) kn_RX10 ki_X10_init kc_X10_init rfl rfl ⟨by decide +kernel, by decide +kernel, by decide +kernel⟩ (by decide) (kX10 _) rfl rfl (Nat.le_of_ble_eq_true rfl) dX11_init_64 rfl (Nat.le_of_ble_eq_true rfl) (Nat.le_of_ble_eq_true rfl) (fun u11 hu11 => ?_)
  subst hu11
  refine cn_eqw (ws' := ((h0, .inr (11, [.ref (u1 0), .ref (u3 0), .ref (u5 0), .ref (u7 0), .ref (u9 0), .null, .null, .null, .null, .null, .null, .int 0, .int 0, .int 0, .int 0])) :: (cw_3 X u1 ++ (cw_3 X u3 ++ (cw_0 X u5 ++ (cw_8 X u7 ++ (cw_5 X u9 ++ cw_10 X u11))))))) rfl ?_
  refine cn_putF 70 0 cp_RX11_45 rfl rfl rfl rfl (Nat.le_of_ble_eq_true rfl) dX11_init_67 rfl ?_
  refine cn_eqw (ws' := ((h0, .inr (11, [.ref (u1 0), .ref (u3 0), .ref (u5 0), .ref (u7 0), .ref (u9 0), .ref (u11 0), .null, .null, .null, .null, .null, .int 0, .int 0, .int 0, .int 0])) :: (cw_3 X u1 ++ (cw_3 X u3 ++ (cw_0 X u5 ++ (cw_8 X u7 ++ (cw_5 X u9 ++ cw_10 X u11))))))) rfl ?_
  refine cn_aload 71 0 dX11_init_70 rfl rfl ?_
  refine cn_new 74 cf_9 kC_RX11_49 kt_9 kn_RX9 [.long 0, .long 0, .long 0] (fun j hj => by rcases (show j = 0 ∨ j = 1 ∨ j = 2 by omega) with rfl | rfl | rfl <;> rfl) dX11_init_71 rfl (Nat.le_of_ble_eq_true rfl) (Nat.le_of_ble_eq_true rfl) (fun q12 => ?_)
  refine cn_dup 75 dX11_init_74 rfl rfl ?_
  refine cn_ctor (y2 := mX9_init) (np := 0) (As := []) 78 (Or.inr ⟨RX11, List.mem_of_getElem? (i := 8) rfl⟩) kn_RX9 ki_X9_init kc_X9_init rfl rfl ⟨by decide +kernel, by decide +kernel, by decide +kernel⟩ (by decide) (kX9 _) rfl rfl (Nat.le_of_ble_eq_true rfl) dX11_init_75 rfl (Nat.le_of_ble_eq_true rfl) (Nat.le_of_ble_eq_true rfl) (fun u13 hu13 => ?_)
  subst hu13
  refine cn_eqw (ws' := ((h0, .inr (11, [.ref (u1 0), .ref (u3 0), .ref (u5 0), .ref (u7 0), .ref (u9 0), .ref (u11 0), .null, .null, .null, .null, .null, .int 0, .int 0, .int 0, .int 0])) :: (cw_3 X u1 ++ (cw_3 X u3 ++ (cw_0 X u5 ++ (cw_8 X u7 ++ (cw_5 X u9 ++ (cw_10 X u11 ++ cw_9 X u13)))))))) rfl ?_
  refine cn_putF 81 0 cp_RX11_52 rfl rfl rfl rfl (Nat.le_of_ble_eq_true rfl) dX11_init_78 rfl ?_
  refine cn_eqw (ws' := ((h0, .inr (11, [.ref (u1 0), .ref (u3 0), .ref (u5 0), .ref (u7 0), .ref (u9 0), .ref (u11 0), .ref (u13 0), .null, .null, .null, .null, .int 0, .int 0, .int 0, .int 0])) :: (cw_3 X u1 ++ (cw_3 X u3 ++ (cw_0 X u5 ++ (cw_8 X u7 ++ (cw_5 X u9 ++ (cw_10 X u11 ++ cw_9 X u13)))))))) rfl ?_
  refine cn_aload 82 0 dX11_init_81 rfl rfl ?_
  refine cn_new 85 cf_2 kC_RX11_56 kt_2 kn_RX2 [.null, .int 0] (fun j hj => by rcases (show j = 0 ∨ j = 1 by omega) with rfl | rfl <;> rfl) dX11_init_82 rfl (Nat.le_of_ble_eq_true rfl) (Nat.le_of_ble_eq_true rfl) (fun q14 => ?_)
  refine cn_dup 86 dX11_init_85 rfl rfl ?_
  refine cn_bipush 88 (60) dX11_init_86 rfl (by decide) ?_
  refine cn_ctor (y2 := mX2_init) (np := 1) (As := [.int (zI (60 : Nat))]) 91 (Or.inl kI_RX11_58) kn_RX2 ki_X2_init kc_X2_init rfl rfl ⟨by decide +kernel, by decide +kernel, by decide +kernel⟩ (by decide) (kX2 60 _ (by decide)) rfl rfl (Nat.le_of_ble_eq_true rfl) dX11_init_88 rfl (Nat.le_of_ble_eq_true rfl) (Nat.le_of_ble_eq_true rfl) (fun u15 hu15 => ?_)
  subst hu15
  refine cn_eqw (ws' := ((h0, .inr (11, [.ref (u1 0), .ref (u3 0), .ref (u5 0), .ref (u7 0), .ref (u9 0), .ref (u11 0), .ref (u13 0), .null, .null, .null, .null, .int 0, .int 0, .int 0, .int 0])) :: (cw_3 X u1 ++ (cw_3 X u3 ++ (cw_0 X u5 ++ (cw_8 X u7 ++ (cw_5 X u9 ++ (cw_10 X u11 ++ (cw_9 X u13 ++ cw_2 X 60 u15))))))))) rfl ?_
  refine cn_putF 94 0 cp_RX11_61 rfl rfl rfl rfl (Nat.le_of_ble_eq_true rfl) dX11_init_91 rfl ?_
  refine cn_eqw (ws' := ((h0, .inr (11, [.ref (u1 0), .ref (u3 0), .ref (u5 0), .ref (u7 0), .ref (u9 0), .ref (u11 0), .ref (u13 0), .ref (u15 0), .null, .null, .null, .int 0, .int 0, .int 0, .int 0])) :: (cw_3 X u1 ++ (cw_3 X u3 ++ (cw_0 X u5 ++ (cw_8 X u7 ++ (cw_5 X u9 ++ (cw_10 X u11 ++ (cw_9 X u13 ++ cw_2 X 60 u15))))))))) rfl ?_
  refine cn_aload 95 0 dX11_init_94 rfl rfl ?_
  refine cn_new 98 cf_2 kC_RX11_56 kt_2 kn_RX2 [.null, .int 0] (fun j hj => by rcases (show j = 0 ∨ j = 1 by omega) with rfl | rfl <;> rfl) dX11_init_95 rfl (Nat.le_of_ble_eq_true rfl) (Nat.le_of_ble_eq_true rfl) (fun q16 => ?_)
  refine cn_dup 99 dX11_init_98 rfl rfl ?_
  refine cn_bipush 101 (32) dX11_init_99 rfl (by decide) ?_
  refine cn_ctor (y2 := mX2_init) (np := 1) (As := [.int (zI (32 : Nat))]) 104 (Or.inl kI_RX11_58) kn_RX2 ki_X2_init kc_X2_init rfl rfl ⟨by decide +kernel, by decide +kernel, by decide +kernel⟩ (by decide) (kX2 32 _ (by decide)) rfl rfl (Nat.le_of_ble_eq_true rfl) dX11_init_101 rfl (Nat.le_of_ble_eq_true rfl) (Nat.le_of_ble_eq_true rfl) (fun u17 hu17 => ?_)
  subst hu17
  refine cn_eqw (ws' := ((h0, .inr (11, [.ref (u1 0), .ref (u3 0), .ref (u5 0), .ref (u7 0), .ref (u9 0), .ref (u11 0), .ref (u13 0), .ref (u15 0), .null, .null, .null, .int 0, .int 0, .int 0, .int 0])) :: (cw_3 X u1 ++ (cw_3 X u3 ++ (cw_0 X u5 ++ (cw_8 X u7 ++ (cw_5 X u9 ++ (cw_10 X u11 ++ (cw_9 X u13 ++ (cw_2 X 60 u15 ++ cw_2 X 32 u17)))))))))) rfl ?_
  refine cn_putF 107 0 cp_RX11_65 rfl rfl rfl rfl (Nat.le_of_ble_eq_true rfl) dX11_init_104 rfl ?_
  refine cn_eqw (ws' := ((h0, .inr (11, [.ref (u1 0), .ref (u3 0), .ref (u5 0), .ref (u7 0), .ref (u9 0), .ref (u11 0), .ref (u13 0), .ref (u15 0), .ref (u17 0), .null, .null, .int 0, .int 0, .int 0, .int 0])) :: (cw_3 X u1 ++ (cw_3 X u3 ++ (cw_0 X u5 ++ (cw_8 X u7 ++ (cw_5 X u9 ++ (cw_10 X u11 ++ (cw_9 X u13 ++ (cw_2 X 60 u15 ++ cw_2 X 32 u17)))))))))) rfl ?_
  refine cn_aload 108 0 dX11_init_107 rfl rfl ?_
  refine cn_new 111 cf_6 kC_RX11_68 kt_6 kn_RX6 [.null, .int 0] (fun j hj => by rcases (show j = 0 ∨ j = 1 by omega) with rfl | rfl <;> rfl) dX11_init_108 rfl (Nat.le_of_ble_eq_true rfl) (Nat.le_of_ble_eq_true rfl) (fun q18 => ?_)
  refine cn_dup 112 dX11_init_111 rfl rfl ?_
  refine cn_ctor (y2 := mX6_init) (np := 0) (As := []) 115 (Or.inr ⟨RX11, List.mem_of_getElem? (i := 9) rfl⟩) kn_RX6 ki_X6_init kc_X6_init rfl rfl ⟨by decide +kernel, by decide +kernel, by decide +kernel⟩ (by decide) (kX6 _) rfl rfl (Nat.le_of_ble_eq_true rfl) dX11_init_112 rfl (Nat.le_of_ble_eq_true rfl) (Nat.le_of_ble_eq_true rfl) (fun u19 hu19 => ?_)
  subst hu19
  refine cn_eqw (ws' := ((h0, .inr (11, [.ref (u1 0), .ref (u3 0), .ref (u5 0), .ref (u7 0), .ref (u9 0), .ref (u11 0), .ref (u13 0), .ref (u15 0), .ref (u17 0), .null, .null, .int 0, .int 0, .int 0, .int 0])) :: (cw_3 X u1 ++ (cw_3 X u3 ++ (cw_0 X u5 ++ (cw_8 X u7 ++ (cw_5 X u9 ++ (cw_10 X u11 ++ (cw_9 X u13 ++ (cw_2 X 60 u15 ++ (cw_2 X 32 u17 ++ cw_6 X u19))))))))))) rfl ?_
  refine cn_putF 118 0 cp_RX11_71 rfl rfl rfl rfl (Nat.le_of_ble_eq_true rfl) dX11_init_115 rfl ?_
  refine cn_eqw (ws' := ((h0, .inr (11, [.ref (u1 0), .ref (u3 0), .ref (u5 0), .ref (u7 0), .ref (u9 0), .ref (u11 0), .ref (u13 0), .ref (u15 0), .ref (u17 0), .ref (u19 0), .null, .int 0, .int 0, .int 0, .int 0])) :: (cw_3 X u1 ++ (cw_3 X u3 ++ (cw_0 X u5 ++ (cw_8 X u7 ++ (cw_5 X u9 ++ (cw_10 X u11 ++ (cw_9 X u13 ++ (cw_2 X 60 u15 ++ (cw_2 X 32 u17 ++ cw_6 X u19))))))))))) rfl ?_
  refine cn_aload 119 0 dX11_init_118 rfl rfl ?_
  refine cn_new 122 cf_4 kC_RX11_75 kt_4 kn_RX4 [.null, .null] (fun j hj => by rcases (show j = 0 ∨ j = 1 by omega) with rfl | rfl <;> rfl) dX11_init_119 rfl (Nat.le_of_ble_eq_true rfl) (Nat.le_of_ble_eq_true rfl) (fun q20 => ?_)
  refine cn_dup 123 dX11_init_122 rfl rfl ?_
  refine cn_ctor (y2 := mX4_init) (np := 0) (As := []) 126 (Or.inl kI_RX11_77) kn_RX4 ki_X4_init kc_X4_init rfl rfl ⟨by decide +kernel, by decide +kernel, by decide +kernel⟩ (by decide) (kX4 _) rfl rfl (Nat.le_of_ble_eq_true rfl) dX11_init_123 rfl (Nat.le_of_ble_eq_true rfl) (Nat.le_of_ble_eq_true rfl) (fun u21 hu21 => ?_)
  subst hu21
  refine cn_eqw (ws' := ((h0, .inr (11, [.ref (u1 0), .ref (u3 0), .ref (u5 0), .ref (u7 0), .ref (u9 0), .ref (u11 0), .ref (u13 0), .ref (u15 0), .ref (u17 0), .ref (u19 0), .null, .int 0, .int 0, .int 0, .int 0])) :: (cw_3 X u1 ++ (cw_3 X u3 ++ (cw_0 X u5 ++ (cw_8 X u7 ++ (cw_5 X u9 ++ (cw_10 X u11 ++ (cw_9 X u13 ++ (cw_2 X 60 u15 ++ (cw_2 X 32 u17 ++ (cw_6 X u19 ++ cw_4 X u21)))))))))))) rfl ?_
  refine cn_putF 129 0 cp_RX11_78 rfl rfl rfl rfl (Nat.le_of_ble_eq_true rfl) dX11_init_126 rfl ?_
  refine cn_eqw (ws' := ((h0, .inr (11, [.ref (u1 0), .ref (u3 0), .ref (u5 0), .ref (u7 0), .ref (u9 0), .ref (u11 0), .ref (u13 0), .ref (u15 0), .ref (u17 0), .ref (u19 0), .ref (u21 0), .int 0, .int 0, .int 0, .int 0])) :: (cw_3 X u1 ++ (cw_3 X u3 ++ (cw_0 X u5 ++ (cw_8 X u7 ++ (cw_5 X u9 ++ (cw_10 X u11 ++ (cw_9 X u13 ++ (cw_2 X 60 u15 ++ (cw_2 X 32 u17 ++ (cw_6 X u19 ++ cw_4 X u21)))))))))))) rfl ?_
  obtain ⟨u, hu⟩ : ∃ u : Nat → Nat, u = (fun j => [h0, u1 0, u1 1, u1 2, u1 3, u1 4, u1 5, u1 6, u1 7, u1 8, u1 9, u1 10, u1 11, u1 12, u1 13, u1 14, u3 0, u3 1, u3 2, u3 3, u3 4, u3 5, u3 6, u3 7, u3 8, u3 9, u3 10, u3 11, u3 12, u3 13, u3 14, u5 0, u5 1, u5 2, u5 3, u5 4, u5 5, u7 0, u7 1, u7 2, u7 3, u7 4, u7 5, u7 6, u7 7, u7 8, u7 9, u7 10, u7 11, u7 12, u7 13, u7 14, u7 15, u7 16, u7 17, u7 18, u7 19, u9 0, u9 1, u9 2, u11 0, u11 1, u13 0, u15 0, u15 1, u17 0, u17 1, u19 0, u19 1, u19 2, u21 0, u21 1, u21 2, u21 3, u21 4, u21 5].getD j 0) := ⟨_, rfl⟩
  refine cn_eqR 5 (fun i => some (u ((rfA.getD 5 []).getD i 0))) rfl (fun j hj => by subst hu; rcases (show j = 0 ∨ j = 1 ∨ j = 2 ∨ j = 3 by omega) with rfl | rfl | rfl | rfl <;> rfl) ?_
  refine cn_eqR 20 (fun i => some (u ((rfA.getD 20 []).getD i 0))) rfl (fun j hj => by subst hu; rcases (show j = 0 ∨ j = 1 ∨ j = 2 ∨ j = 3 by omega) with rfl | rfl | rfl | rfl <;> rfl) ?_
  refine cn_eqR 38 (fun i => some (u ((rfA.getD 38 []).getD i 0))) rfl (fun j hj => by subst hu; rcases (show j = 0 ∨ j = 1 ∨ j = 2 ∨ j = 3 by omega) with rfl | rfl | rfl | rfl <;> rfl) ?_
  refine cn_eqR 39 (fun i => some (u ((rfA.getD 39 []).getD i 0))) rfl (fun j hj => by subst hu; rcases (show j = 0 ∨ j = 1 ∨ j = 2 ∨ j = 3 ∨ j = 4 by omega) with rfl | rfl | rfl | rfl | rfl <;> rfl) ?_
  refine cn_eqR 71 (fun i => some (u ((rfA.getD 71 []).getD i 0))) rfl (fun j hj => by subst hu; rcases (show j = 0 ∨ j = 1 ∨ j = 2 by omega) with rfl | rfl | rfl <;> rfl) ?_
  exact cn_ret u dX11_init_129 rfl (by rw [hu]; rfl) (by rw [hu]; rfl) (Nat.le_refl _) (Nat.le_refl _)
