/-! the constructors' walks, printed by wip/p24/gen/genc.py -/
def pu (M : Mem) (r k : Nat) (v : Int32) : Mem := um M r (upd (M r) k v)
def nw (M : Mem) (N : Nat) : Mem := um M N (fun _ => 0)
def nwq (M : Mem) (N : Nat) : Mem := um M N (fun _ => -1)
def cp4 (M : Mem) (r : Nat) : Mem := um M r (va_cpy (sv 0) (M r) 0 0 4)
abbrev iX6_init : MI := (cX6_init, 1, none, RX6, yX6_init, wsX6_init)
theorem hy_X6_init : yX6_init.cls ≠ "java/lang/invoke/MethodHandle" ∧ yX6_init.cls ≠ "java/lang/invoke/VarHandle" ∧ (parseMethodDescriptor yX6_init.desc).map (fun d => d.parameters.length) = some 0 := by decide +kernel
theorem in_X6_init_X4 : ∀ w ∈ u_ws RX4 TX4 7, w ∈ wsX6_init := by decide +kernel
abbrev iX4_init : MI := (cX4_init, 1, none, RX4, yX4_init, wsX4_init)
theorem hy_X4_init : yX4_init.cls ≠ "java/lang/invoke/MethodHandle" ∧ yX4_init.cls ≠ "java/lang/invoke/VarHandle" ∧ (parseMethodDescriptor yX4_init.desc).map (fun d => d.parameters.length) = some 0 := by decide +kernel
theorem in_X4_init_X4 : ∀ w ∈ u_ws RX4 TX4 7, w ∈ wsX4_init := by decide +kernel
theorem fl_X4_init_9 : Cond.fieldLink RX4 9 (TX4 0).1 (TX4 0).2.1 (TX4 0).2.2.1 ∈ wsX4_init := by decide +kernel
theorem fl_X4_init_15 : Cond.fieldLink RX4 15 (TX4 1).1 (TX4 1).2.1 (TX4 1).2.2.1 ∈ wsX4_init := by decide +kernel
theorem fl_X4_init_18 : Cond.fieldLink RX4 18 (TX4 2).1 (TX4 2).2.1 (TX4 2).2.2.1 ∈ wsX4_init := by decide +kernel
theorem fl_X4_init_21 : Cond.fieldLink RX4 21 (TX4 3).1 (TX4 3).2.1 (TX4 3).2.2.1 ∈ wsX4_init := by decide +kernel
theorem fl_X4_init_25 : Cond.fieldLink RX4 25 (TX4 4).1 (TX4 4).2.1 (TX4 4).2.2.1 ∈ wsX4_init := by decide +kernel
theorem fl_X4_init_28 : Cond.fieldLink RX4 28 (TX4 5).1 (TX4 5).2.1 (TX4 5).2.2.1 ∈ wsX4_init := by decide +kernel
theorem fl_X4_init_35 : Cond.fieldLink RX4 35 (TX4 6).1 (TX4 6).2.1 (TX4 6).2.2.1 ∈ wsX4_init := by decide +kernel
theorem in_X6_init_X6 : ∀ w ∈ u_ws RX6 TX6 7, w ∈ wsX6_init := by decide +kernel
theorem fl_X6_init_10 : Cond.fieldLink RX6 10 (TX6 0).1 (TX6 0).2.1 (TX6 0).2.2.1 ∈ wsX6_init := by decide +kernel
theorem fl_X6_init_16 : Cond.fieldLink RX6 16 (TX6 1).1 (TX6 1).2.1 (TX6 1).2.2.1 ∈ wsX6_init := by decide +kernel
theorem fl_X6_init_19 : Cond.fieldLink RX6 19 (TX6 2).1 (TX6 2).2.1 (TX6 2).2.2.1 ∈ wsX6_init := by decide +kernel
theorem in_X6_init_X0 : ∀ w ∈ u_ws RX0 TX0 2, w ∈ wsX6_init := by decide +kernel
abbrev iX0_init : MI := (cX0_init, 2, none, RX0, yX0_init, wsX0_init)
theorem hy_X0_init : yX0_init.cls ≠ "java/lang/invoke/MethodHandle" ∧ yX0_init.cls ≠ "java/lang/invoke/VarHandle" ∧ (parseMethodDescriptor yX0_init.desc).map (fun d => d.parameters.length) = some 0 := by decide +kernel
theorem in_X0_init_X0 : ∀ w ∈ u_ws RX0 TX0 2, w ∈ wsX0_init := by decide +kernel
theorem fl_X0_init_9 : Cond.fieldLink RX0 9 (TX0 0).1 (TX0 0).2.1 (TX0 0).2.2.1 ∈ wsX0_init := by decide +kernel
theorem fl_X0_init_17 : Cond.fieldLink RX0 17 (TX0 1).1 (TX0 1).2.1 (TX0 1).2.2.1 ∈ wsX0_init := by decide +kernel
theorem in_X0_init_X4 : ∀ w ∈ u_ws RX4 TX4 7, w ∈ wsX0_init := by decide +kernel
theorem fl_X6_init_26 : Cond.fieldLink RX6 26 (TX6 3).1 (TX6 3).2.1 (TX6 3).2.2.1 ∈ wsX6_init := by decide +kernel
theorem in_X6_init_X5 : ∀ w ∈ u_ws RX5 TX5 2, w ∈ wsX6_init := by decide +kernel
abbrev iX5_init : MI := (cX5_init, 1, none, RX5, yX5_init, wsX5_init)
theorem hy_X5_init : yX5_init.cls ≠ "java/lang/invoke/MethodHandle" ∧ yX5_init.cls ≠ "java/lang/invoke/VarHandle" ∧ (parseMethodDescriptor yX5_init.desc).map (fun d => d.parameters.length) = some 0 := by decide +kernel
theorem in_X5_init_X5 : ∀ w ∈ u_ws RX5 TX5 2, w ∈ wsX5_init := by decide +kernel
theorem fl_X5_init_9 : Cond.fieldLink RX5 9 (TX5 0).1 (TX5 0).2.1 (TX5 0).2.2.1 ∈ wsX5_init := by decide +kernel
theorem fl_X5_init_15 : Cond.fieldLink RX5 15 (TX5 1).1 (TX5 1).2.1 (TX5 1).2.2.1 ∈ wsX5_init := by decide +kernel
theorem fl_X6_init_33 : Cond.fieldLink RX6 33 (TX6 4).1 (TX6 4).2.1 (TX6 4).2.2.1 ∈ wsX6_init := by decide +kernel
theorem in_X6_init_X2 : ∀ w ∈ u_ws RX2 TX2 1, w ∈ wsX6_init := by decide +kernel
abbrev iX2_init : MI := (cX2_init, 1, none, RX2, yX2_init, wsX2_init)
theorem hy_X2_init : yX2_init.cls ≠ "java/lang/invoke/MethodHandle" ∧ yX2_init.cls ≠ "java/lang/invoke/VarHandle" ∧ (parseMethodDescriptor yX2_init.desc).map (fun d => d.parameters.length) = some 0 := by decide +kernel
theorem in_X2_init_X3 : ∀ w ∈ u_ws RX3 TX3 11, w ∈ wsX2_init := by decide +kernel
abbrev iX3_init : MI := (cX3_init, 1, none, RX3, yX3_init, wsX3_init)
theorem hy_X3_init : yX3_init.cls ≠ "java/lang/invoke/MethodHandle" ∧ yX3_init.cls ≠ "java/lang/invoke/VarHandle" ∧ (parseMethodDescriptor yX3_init.desc).map (fun d => d.parameters.length) = some 0 := by decide +kernel
theorem in_X3_init_X3 : ∀ w ∈ u_ws RX3 TX3 11, w ∈ wsX3_init := by decide +kernel
theorem fl_X3_init_9 : Cond.fieldLink RX3 9 (TX3 5).1 (TX3 5).2.1 (TX3 5).2.2.1 ∈ wsX3_init := by decide +kernel
theorem fl_X3_init_15 : Cond.fieldLink RX3 15 (TX3 6).1 (TX3 6).2.1 (TX3 6).2.2.1 ∈ wsX3_init := by decide +kernel
theorem fl_X3_init_18 : Cond.fieldLink RX3 18 (TX3 7).1 (TX3 7).2.1 (TX3 7).2.2.1 ∈ wsX3_init := by decide +kernel
theorem fl_X3_init_21 : Cond.fieldLink RX3 21 (TX3 8).1 (TX3 8).2.1 (TX3 8).2.2.1 ∈ wsX3_init := by decide +kernel
theorem fl_X3_init_24 : Cond.fieldLink RX3 24 (TX3 9).1 (TX3 9).2.1 (TX3 9).2.2.1 ∈ wsX3_init := by decide +kernel
theorem fl_X3_init_27 : Cond.fieldLink RX3 27 (TX3 10).1 (TX3 10).2.1 (TX3 10).2.2.1 ∈ wsX3_init := by decide +kernel
theorem in_X2_init_X2 : ∀ w ∈ u_ws RX2 TX2 1, w ∈ wsX2_init := by decide +kernel
theorem fl_X2_init_12 : Cond.fieldLink RX2 12 (TX2 0).1 (TX2 0).2.1 (TX2 0).2.2.1 ∈ wsX2_init := by decide +kernel
theorem fl_X6_init_40 : Cond.fieldLink RX6 40 (TX6 5).1 (TX6 5).2.1 (TX6 5).2.2.1 ∈ wsX6_init := by decide +kernel
theorem in_X6_init_X1 : ∀ w ∈ u_ws RX1 TX1 6, w ∈ wsX6_init := by decide +kernel
abbrev iX1_init : MI := (cX1_init, 1, none, RX1, yX1_init, wsX1_init)
theorem hy_X1_init : yX1_init.cls ≠ "java/lang/invoke/MethodHandle" ∧ yX1_init.cls ≠ "java/lang/invoke/VarHandle" ∧ (parseMethodDescriptor yX1_init.desc).map (fun d => d.parameters.length) = some 0 := by decide +kernel
theorem in_X1_init_X2 : ∀ w ∈ u_ws RX2 TX2 1, w ∈ wsX1_init := by decide +kernel
theorem in_X1_init_X1 : ∀ w ∈ u_ws RX1 TX1 6, w ∈ wsX1_init := by decide +kernel
theorem fl_X1_init_12 : Cond.fieldLink RX1 12 (TX1 0).1 (TX1 0).2.1 (TX1 0).2.2.1 ∈ wsX1_init := by decide +kernel
theorem in_X1_init_X4 : ∀ w ∈ u_ws RX4 TX4 7, w ∈ wsX1_init := by decide +kernel
theorem fl_X1_init_21 : Cond.fieldLink RX1 21 (TX1 1).1 (TX1 1).2.1 (TX1 1).2.2.1 ∈ wsX1_init := by decide +kernel
theorem fl_X1_init_25 : Cond.fieldLink RX1 25 (TX1 2).1 (TX1 2).2.1 (TX1 2).2.2.1 ∈ wsX1_init := by decide +kernel
theorem fl_X1_init_29 : Cond.fieldLink RX1 29 (TX1 3).1 (TX1 3).2.1 (TX1 3).2.2.1 ∈ wsX1_init := by decide +kernel
theorem fl_X1_init_33 : Cond.fieldLink RX1 33 (TX1 4).1 (TX1 4).2.1 (TX1 4).2.2.1 ∈ wsX1_init := by decide +kernel
theorem fl_X1_init_36 : Cond.fieldLink RX1 36 (TX1 5).1 (TX1 5).2.1 (TX1 5).2.2.1 ∈ wsX1_init := by decide +kernel
theorem fl_X6_init_47 : Cond.fieldLink RX6 47 (TX6 6).1 (TX6 6).2.1 (TX6 6).2.2.1 ∈ wsX6_init := by decide +kernel
def sct_X4_1 (σ : Nat → KD) : Nat → KD := (us (us (us (us σ 2 (.inl (0, 8, false))) 1 (.inr (4, [none, none, none, none, none, some (some 2), some none]))) 3 (.inl (0, 4, false))) 1 (.inr (4, [none, none, none, none, none, some (some 2), some (some 3)])))
def mct_X4_1 (M : Mem) : Mem := (cp4 (nw (pu (pu (pu (pu (pu (pu (pu (pu (nw (pu (pu (pu (pu (pu M 1 0 (nI 1)) 1 1 (nI 1)) 1 2 (nI 0)) 1 3 (nI 0)) 1 4 (nI 0)) 2) 2 0 (nI 5)) 2 1 (nI 5)) 2 2 (nI 0)) 2 3 (nI 0)) 2 4 (nI 0)) 2 5 (nI 0)) 2 6 (nI 0)) 2 7 (nI 0)) 3) 3)
set_option maxRecDepth 100000 in
set_option maxHeartbeats 4000000 in
theorem ct_X4_1 {E : EN} {σ : Nat → KD} {M : Mem} (hσ : σ 1 = .inr (4, [none, none, none, none, none, some none, some none])) : MW E iX4_init 1 2 12 true [.ref 1] σ 2 M (fun v σ' N' M' => v = none ∧ σ' = sct_X4_1 σ ∧ N' = 4 ∧ M' = mct_X4_1 M) := by
  refine mw_intro (ls := [(0, .ref 1)]) rfl (by decide +kernel) rfl rfl (Nat.le_of_ble_eq_true rfl) ?_
  refine wp_aload_n 0 dX4_init_0 rfl ?_
  refine wp_objInit (by decide +kernel) (by decide +kernel) (by decide +kernel) (by decide) (Nat.le_of_ble_eq_true rfl) dX4_init_1 ?_
  refine wp_aload_n 0 dX4_init_4 rfl ?_
  refine wp_iconst (v := nI 1) dX4_init_5 (by decide) ?_
  refine wp_put (ty := .int) tyX4 tyX4_ok nmX4 hσ (by decide) rfl in_X4_init_X4 0 (by decide) fl_X4_init_9 rfl rfl (by decide +kernel) rfl rfl dX4_init_6 (fun Mx ex => ?_)
  obtain rfl : Mx = pu _ 1 0 (nI 1) := ex
  refine wp_aload_n 0 dX4_init_9 rfl ?_
  refine wp_iconst (v := nI 1) dX4_init_10 (by decide) ?_
  refine wp_put (ty := .int) tyX4 tyX4_ok nmX4 hσ (by decide) rfl in_X4_init_X4 1 (by decide) fl_X4_init_15 rfl rfl (by decide +kernel) rfl rfl dX4_init_11 (fun Mx ex => ?_)
  obtain rfl : Mx = pu _ 1 1 (nI 1) := ex
  refine wp_aload_n 0 dX4_init_14 rfl ?_
  refine wp_iconst (v := nI 0) dX4_init_15 (by decide) ?_
  refine wp_put (ty := .int) tyX4 tyX4_ok nmX4 hσ (by decide) rfl in_X4_init_X4 2 (by decide) fl_X4_init_18 rfl rfl (by decide +kernel) rfl rfl dX4_init_16 (fun Mx ex => ?_)
  obtain rfl : Mx = pu _ 1 2 (nI 0) := ex
  refine wp_aload_n 0 dX4_init_19 rfl ?_
  refine wp_iconst (v := nI 0) dX4_init_20 (by decide) ?_
  refine wp_put (ty := .boolean) tyX4 tyX4_ok nmX4 hσ (by decide) rfl in_X4_init_X4 3 (by decide) fl_X4_init_21 rfl rfl (by decide +kernel) rfl rfl dX4_init_21 (fun Mx ex => ?_)
  obtain rfl : Mx = pu _ 1 3 (nI 0) := ex
  refine wp_aload_n 0 dX4_init_24 rfl ?_
  refine wp_iconst (v := nI 0) dX4_init_25 (by decide) ?_
  refine wp_put (ty := .int) tyX4 tyX4_ok nmX4 hσ (by decide) rfl in_X4_init_X4 4 (by decide) fl_X4_init_25 rfl rfl (by decide +kernel) rfl rfl dX4_init_26 (fun Mx ex => ?_)
  obtain rfl : Mx = pu _ 1 4 (nI 0) := ex
  refine wp_aload_n 0 dX4_init_29 rfl ?_
  refine wp_bipush (v := nI 8) dX4_init_30 (by decide) ?_
  refine wp_newI (N' := 8) (k' := 1) (n' := 4) (by decide +kernel) (by decide) (by decide) (by decide) (by decide) rfl rfl dX4_init_32 ?_
  refine wp_dup rfl dX4_init_34 ?_
  refine wp_iconst (v := nI 0) dX4_init_35 (by decide) ?_
  refine wp_iconst (v := nI 5) dX4_init_36 (by decide) ?_
  refine wp_iast rfl (by decide) (vil rfl) dX4_init_37 (fun Mx ex => ?_)
  obtain rfl : Mx = pu _ 2 0 (nI 5) := ex
  refine wp_dup rfl dX4_init_38 ?_
  refine wp_iconst (v := nI 1) dX4_init_39 (by decide) ?_
  refine wp_iconst (v := nI 5) dX4_init_40 (by decide) ?_
  refine wp_iast rfl (by decide) (vil rfl) dX4_init_41 (fun Mx ex => ?_)
  obtain rfl : Mx = pu _ 2 1 (nI 5) := ex
  refine wp_dup rfl dX4_init_42 ?_
  refine wp_iconst (v := nI 2) dX4_init_43 (by decide) ?_
  refine wp_iconst (v := nI 0) dX4_init_44 (by decide) ?_
  refine wp_iast rfl (by decide) (vil rfl) dX4_init_45 (fun Mx ex => ?_)
  obtain rfl : Mx = pu _ 2 2 (nI 0) := ex
  refine wp_dup rfl dX4_init_46 ?_
  refine wp_iconst (v := nI 3) dX4_init_47 (by decide) ?_
  refine wp_iconst (v := nI 0) dX4_init_48 (by decide) ?_
  refine wp_iast rfl (by decide) (vil rfl) dX4_init_49 (fun Mx ex => ?_)
  obtain rfl : Mx = pu _ 2 3 (nI 0) := ex
  refine wp_dup rfl dX4_init_50 ?_
  refine wp_iconst (v := nI 4) dX4_init_51 (by decide) ?_
  refine wp_iconst (v := nI 0) dX4_init_52 (by decide) ?_
  refine wp_iast rfl (by decide) (vil rfl) dX4_init_53 (fun Mx ex => ?_)
  obtain rfl : Mx = pu _ 2 4 (nI 0) := ex
  refine wp_dup rfl dX4_init_54 ?_
  refine wp_iconst (v := nI 5) dX4_init_55 (by decide) ?_
  refine wp_iconst (v := nI 0) dX4_init_56 (by decide) ?_
  refine wp_iast rfl (by decide) (vil rfl) dX4_init_57 (fun Mx ex => ?_)
  obtain rfl : Mx = pu _ 2 5 (nI 0) := ex
  refine wp_dup rfl dX4_init_58 ?_
  refine wp_bipush (v := nI 6) dX4_init_59 (by decide) ?_
  refine wp_iconst (v := nI 0) dX4_init_61 (by decide) ?_
  refine wp_iast rfl (by decide) (vil rfl) dX4_init_62 (fun Mx ex => ?_)
  obtain rfl : Mx = pu _ 2 6 (nI 0) := ex
  refine wp_dup rfl dX4_init_63 ?_
  refine wp_bipush (v := nI 7) dX4_init_64 (by decide) ?_
  refine wp_iconst (v := nI 0) dX4_init_66 (by decide) ?_
  refine wp_iast rfl (by decide) (vil rfl) dX4_init_67 (fun Mx ex => ?_)
  obtain rfl : Mx = pu _ 2 7 (nI 0) := ex
  refine wp_putF (fk := [none, none, none, none, none, some none, some none]) (ty := tyX4 5) tyX4 tyX4_ok nmX4 hσ (by decide) rfl in_X4_init_X4 5 (by decide) fl_X4_init_28 (by decide) rfl rfl rfl (tyX4_ok 5 (by decide)) (fun _ => rfl) (fun _ => rfl) dX4_init_68 ?_
  rw [show ([none, none, none, none, none, some none, some none] : List (Option (Option Nat))).set 5 (some (some 2)) = [none, none, none, none, none, some (some 2), some none] from rfl]
  refine wp_aload_n 0 dX4_init_71 rfl ?_
  refine wp_getsN rfl dX4_init_72 ?_
  refine wp_tlen 0 (by decide) dX4_init_75 ?_
  refine wp_newI (N' := 4) (k' := 0) (n' := 0) (by decide +kernel) (by decide) (by decide) (by decide) (by decide) rfl rfl dX4_init_76 ?_
  refine wp_putF (fk := [none, none, none, none, none, some (some 2), some none]) (ty := tyX4 6) tyX4 tyX4_ok nmX4 rfl (by decide) rfl in_X4_init_X4 6 (by decide) fl_X4_init_35 (by decide) rfl rfl rfl (tyX4_ok 6 (by decide)) (fun _ => rfl) (fun _ => rfl) dX4_init_78 ?_
  rw [show ([none, none, none, none, none, some (some 2), some none] : List (Option (Option Nat))).set 6 (some (some 3)) = [none, none, none, none, none, some (some 2), some (some 3)] from rfl]
  refine wp_getsN rfl dX4_init_81 ?_
  refine wp_iconst (v := nI 0) dX4_init_84 (by decide) ?_
  refine wp_aload_n 0 dX4_init_85 rfl ?_
  refine wp_get (v := .ref 3) dX4_init_86 rfl (by decide) rfl in_X4_init_X4 6 (by decide) fl_X4_init_35 rfl rfl ?_
  refine wp_iconst (v := nI 0) dX4_init_89 (by decide) ?_
  refine wp_aload_n 0 dX4_init_90 rfl ?_
  refine wp_get (v := .ref 3) dX4_init_91 rfl (by decide) rfl in_X4_init_X4 6 (by decide) fl_X4_init_35 rfl rfl ?_
  refine wp_alen (v := nI 4) rfl (by decide) (by decide) (by decide) dX4_init_94 ?_
  refine wp_copyT (by decide +kernel) (by decide +kernel) (by decide +kernel) (by decide +kernel) rfl (by decide) (by decide) (by decide) (by decide) (by decide) (by decide) (by decide) (Nat.le_of_ble_eq_true rfl) dX4_init_95 (fun Mx ex => ?_)
  obtain rfl : Mx = cp4 _ 3 := ex
  exact wp_return rfl dX4_init_98 ⟨rfl, rfl, rfl, rfl⟩
def sct_X4_4 (σ : Nat → KD) : Nat → KD := (us (us (us (us σ 5 (.inl (0, 8, false))) 4 (.inr (4, [none, none, none, none, none, some (some 5), some none]))) 6 (.inl (0, 4, false))) 4 (.inr (4, [none, none, none, none, none, some (some 5), some (some 6)])))
def mct_X4_4 (M : Mem) : Mem := (cp4 (nw (pu (pu (pu (pu (pu (pu (pu (pu (nw (pu (pu (pu (pu (pu M 4 0 (nI 1)) 4 1 (nI 1)) 4 2 (nI 0)) 4 3 (nI 0)) 4 4 (nI 0)) 5) 5 0 (nI 5)) 5 1 (nI 5)) 5 2 (nI 0)) 5 3 (nI 0)) 5 4 (nI 0)) 5 5 (nI 0)) 5 6 (nI 0)) 5 7 (nI 0)) 6) 6)
set_option maxRecDepth 100000 in
set_option maxHeartbeats 4000000 in
theorem ct_X4_4 {E : EN} {σ : Nat → KD} {M : Mem} (hσ : σ 4 = .inr (4, [none, none, none, none, none, some none, some none])) : MW E iX4_init 1 2 12 true [.ref 4] σ 5 M (fun v σ' N' M' => v = none ∧ σ' = sct_X4_4 σ ∧ N' = 7 ∧ M' = mct_X4_4 M) := by
  refine mw_intro (ls := [(0, .ref 4)]) rfl (by decide +kernel) rfl rfl (Nat.le_of_ble_eq_true rfl) ?_
  refine wp_aload_n 0 dX4_init_0 rfl ?_
  refine wp_objInit (by decide +kernel) (by decide +kernel) (by decide +kernel) (by decide) (Nat.le_of_ble_eq_true rfl) dX4_init_1 ?_
  refine wp_aload_n 0 dX4_init_4 rfl ?_
  refine wp_iconst (v := nI 1) dX4_init_5 (by decide) ?_
  refine wp_put (ty := .int) tyX4 tyX4_ok nmX4 hσ (by decide) rfl in_X4_init_X4 0 (by decide) fl_X4_init_9 rfl rfl (by decide +kernel) rfl rfl dX4_init_6 (fun Mx ex => ?_)
  obtain rfl : Mx = pu _ 4 0 (nI 1) := ex
  refine wp_aload_n 0 dX4_init_9 rfl ?_
  refine wp_iconst (v := nI 1) dX4_init_10 (by decide) ?_
  refine wp_put (ty := .int) tyX4 tyX4_ok nmX4 hσ (by decide) rfl in_X4_init_X4 1 (by decide) fl_X4_init_15 rfl rfl (by decide +kernel) rfl rfl dX4_init_11 (fun Mx ex => ?_)
  obtain rfl : Mx = pu _ 4 1 (nI 1) := ex
  refine wp_aload_n 0 dX4_init_14 rfl ?_
  refine wp_iconst (v := nI 0) dX4_init_15 (by decide) ?_
  refine wp_put (ty := .int) tyX4 tyX4_ok nmX4 hσ (by decide) rfl in_X4_init_X4 2 (by decide) fl_X4_init_18 rfl rfl (by decide +kernel) rfl rfl dX4_init_16 (fun Mx ex => ?_)
  obtain rfl : Mx = pu _ 4 2 (nI 0) := ex
  refine wp_aload_n 0 dX4_init_19 rfl ?_
  refine wp_iconst (v := nI 0) dX4_init_20 (by decide) ?_
  refine wp_put (ty := .boolean) tyX4 tyX4_ok nmX4 hσ (by decide) rfl in_X4_init_X4 3 (by decide) fl_X4_init_21 rfl rfl (by decide +kernel) rfl rfl dX4_init_21 (fun Mx ex => ?_)
  obtain rfl : Mx = pu _ 4 3 (nI 0) := ex
  refine wp_aload_n 0 dX4_init_24 rfl ?_
  refine wp_iconst (v := nI 0) dX4_init_25 (by decide) ?_
  refine wp_put (ty := .int) tyX4 tyX4_ok nmX4 hσ (by decide) rfl in_X4_init_X4 4 (by decide) fl_X4_init_25 rfl rfl (by decide +kernel) rfl rfl dX4_init_26 (fun Mx ex => ?_)
  obtain rfl : Mx = pu _ 4 4 (nI 0) := ex
  refine wp_aload_n 0 dX4_init_29 rfl ?_
  refine wp_bipush (v := nI 8) dX4_init_30 (by decide) ?_
  refine wp_newI (N' := 8) (k' := 1) (n' := 4) (by decide +kernel) (by decide) (by decide) (by decide) (by decide) rfl rfl dX4_init_32 ?_
  refine wp_dup rfl dX4_init_34 ?_
  refine wp_iconst (v := nI 0) dX4_init_35 (by decide) ?_
  refine wp_iconst (v := nI 5) dX4_init_36 (by decide) ?_
  refine wp_iast rfl (by decide) (vil rfl) dX4_init_37 (fun Mx ex => ?_)
  obtain rfl : Mx = pu _ 5 0 (nI 5) := ex
  refine wp_dup rfl dX4_init_38 ?_
  refine wp_iconst (v := nI 1) dX4_init_39 (by decide) ?_
  refine wp_iconst (v := nI 5) dX4_init_40 (by decide) ?_
  refine wp_iast rfl (by decide) (vil rfl) dX4_init_41 (fun Mx ex => ?_)
  obtain rfl : Mx = pu _ 5 1 (nI 5) := ex
  refine wp_dup rfl dX4_init_42 ?_
  refine wp_iconst (v := nI 2) dX4_init_43 (by decide) ?_
  refine wp_iconst (v := nI 0) dX4_init_44 (by decide) ?_
  refine wp_iast rfl (by decide) (vil rfl) dX4_init_45 (fun Mx ex => ?_)
  obtain rfl : Mx = pu _ 5 2 (nI 0) := ex
  refine wp_dup rfl dX4_init_46 ?_
  refine wp_iconst (v := nI 3) dX4_init_47 (by decide) ?_
  refine wp_iconst (v := nI 0) dX4_init_48 (by decide) ?_
  refine wp_iast rfl (by decide) (vil rfl) dX4_init_49 (fun Mx ex => ?_)
  obtain rfl : Mx = pu _ 5 3 (nI 0) := ex
  refine wp_dup rfl dX4_init_50 ?_
  refine wp_iconst (v := nI 4) dX4_init_51 (by decide) ?_
  refine wp_iconst (v := nI 0) dX4_init_52 (by decide) ?_
  refine wp_iast rfl (by decide) (vil rfl) dX4_init_53 (fun Mx ex => ?_)
  obtain rfl : Mx = pu _ 5 4 (nI 0) := ex
  refine wp_dup rfl dX4_init_54 ?_
  refine wp_iconst (v := nI 5) dX4_init_55 (by decide) ?_
  refine wp_iconst (v := nI 0) dX4_init_56 (by decide) ?_
  refine wp_iast rfl (by decide) (vil rfl) dX4_init_57 (fun Mx ex => ?_)
  obtain rfl : Mx = pu _ 5 5 (nI 0) := ex
  refine wp_dup rfl dX4_init_58 ?_
  refine wp_bipush (v := nI 6) dX4_init_59 (by decide) ?_
  refine wp_iconst (v := nI 0) dX4_init_61 (by decide) ?_
  refine wp_iast rfl (by decide) (vil rfl) dX4_init_62 (fun Mx ex => ?_)
  obtain rfl : Mx = pu _ 5 6 (nI 0) := ex
  refine wp_dup rfl dX4_init_63 ?_
  refine wp_bipush (v := nI 7) dX4_init_64 (by decide) ?_
  refine wp_iconst (v := nI 0) dX4_init_66 (by decide) ?_
  refine wp_iast rfl (by decide) (vil rfl) dX4_init_67 (fun Mx ex => ?_)
  obtain rfl : Mx = pu _ 5 7 (nI 0) := ex
  refine wp_putF (fk := [none, none, none, none, none, some none, some none]) (ty := tyX4 5) tyX4 tyX4_ok nmX4 hσ (by decide) rfl in_X4_init_X4 5 (by decide) fl_X4_init_28 (by decide) rfl rfl rfl (tyX4_ok 5 (by decide)) (fun _ => rfl) (fun _ => rfl) dX4_init_68 ?_
  rw [show ([none, none, none, none, none, some none, some none] : List (Option (Option Nat))).set 5 (some (some 5)) = [none, none, none, none, none, some (some 5), some none] from rfl]
  refine wp_aload_n 0 dX4_init_71 rfl ?_
  refine wp_getsN rfl dX4_init_72 ?_
  refine wp_tlen 0 (by decide) dX4_init_75 ?_
  refine wp_newI (N' := 4) (k' := 0) (n' := 0) (by decide +kernel) (by decide) (by decide) (by decide) (by decide) rfl rfl dX4_init_76 ?_
  refine wp_putF (fk := [none, none, none, none, none, some (some 5), some none]) (ty := tyX4 6) tyX4 tyX4_ok nmX4 rfl (by decide) rfl in_X4_init_X4 6 (by decide) fl_X4_init_35 (by decide) rfl rfl rfl (tyX4_ok 6 (by decide)) (fun _ => rfl) (fun _ => rfl) dX4_init_78 ?_
  rw [show ([none, none, none, none, none, some (some 5), some none] : List (Option (Option Nat))).set 6 (some (some 6)) = [none, none, none, none, none, some (some 5), some (some 6)] from rfl]
  refine wp_getsN rfl dX4_init_81 ?_
  refine wp_iconst (v := nI 0) dX4_init_84 (by decide) ?_
  refine wp_aload_n 0 dX4_init_85 rfl ?_
  refine wp_get (v := .ref 6) dX4_init_86 rfl (by decide) rfl in_X4_init_X4 6 (by decide) fl_X4_init_35 rfl rfl ?_
  refine wp_iconst (v := nI 0) dX4_init_89 (by decide) ?_
  refine wp_aload_n 0 dX4_init_90 rfl ?_
  refine wp_get (v := .ref 6) dX4_init_91 rfl (by decide) rfl in_X4_init_X4 6 (by decide) fl_X4_init_35 rfl rfl ?_
  refine wp_alen (v := nI 4) rfl (by decide) (by decide) (by decide) dX4_init_94 ?_
  refine wp_copyT (by decide +kernel) (by decide +kernel) (by decide +kernel) (by decide +kernel) rfl (by decide) (by decide) (by decide) (by decide) (by decide) (by decide) (by decide) (Nat.le_of_ble_eq_true rfl) dX4_init_95 (fun Mx ex => ?_)
  obtain rfl : Mx = cp4 _ 6 := ex
  exact wp_return rfl dX4_init_98 ⟨rfl, rfl, rfl, rfl⟩
def sct_X4_9 (σ : Nat → KD) : Nat → KD := (us (us (us (us σ 10 (.inl (0, 8, false))) 9 (.inr (4, [none, none, none, none, none, some (some 10), some none]))) 11 (.inl (0, 4, false))) 9 (.inr (4, [none, none, none, none, none, some (some 10), some (some 11)])))
def mct_X4_9 (M : Mem) : Mem := (cp4 (nw (pu (pu (pu (pu (pu (pu (pu (pu (nw (pu (pu (pu (pu (pu M 9 0 (nI 1)) 9 1 (nI 1)) 9 2 (nI 0)) 9 3 (nI 0)) 9 4 (nI 0)) 10) 10 0 (nI 5)) 10 1 (nI 5)) 10 2 (nI 0)) 10 3 (nI 0)) 10 4 (nI 0)) 10 5 (nI 0)) 10 6 (nI 0)) 10 7 (nI 0)) 11) 11)
set_option maxRecDepth 100000 in
set_option maxHeartbeats 4000000 in
theorem ct_X4_9 {E : EN} {σ : Nat → KD} {M : Mem} (hσ : σ 9 = .inr (4, [none, none, none, none, none, some none, some none])) : MW E iX4_init 1 2 12 true [.ref 9] σ 10 M (fun v σ' N' M' => v = none ∧ σ' = sct_X4_9 σ ∧ N' = 12 ∧ M' = mct_X4_9 M) := by
  refine mw_intro (ls := [(0, .ref 9)]) rfl (by decide +kernel) rfl rfl (Nat.le_of_ble_eq_true rfl) ?_
  refine wp_aload_n 0 dX4_init_0 rfl ?_
  refine wp_objInit (by decide +kernel) (by decide +kernel) (by decide +kernel) (by decide) (Nat.le_of_ble_eq_true rfl) dX4_init_1 ?_
  refine wp_aload_n 0 dX4_init_4 rfl ?_
  refine wp_iconst (v := nI 1) dX4_init_5 (by decide) ?_
  refine wp_put (ty := .int) tyX4 tyX4_ok nmX4 hσ (by decide) rfl in_X4_init_X4 0 (by decide) fl_X4_init_9 rfl rfl (by decide +kernel) rfl rfl dX4_init_6 (fun Mx ex => ?_)
  obtain rfl : Mx = pu _ 9 0 (nI 1) := ex
  refine wp_aload_n 0 dX4_init_9 rfl ?_
  refine wp_iconst (v := nI 1) dX4_init_10 (by decide) ?_
  refine wp_put (ty := .int) tyX4 tyX4_ok nmX4 hσ (by decide) rfl in_X4_init_X4 1 (by decide) fl_X4_init_15 rfl rfl (by decide +kernel) rfl rfl dX4_init_11 (fun Mx ex => ?_)
  obtain rfl : Mx = pu _ 9 1 (nI 1) := ex
  refine wp_aload_n 0 dX4_init_14 rfl ?_
  refine wp_iconst (v := nI 0) dX4_init_15 (by decide) ?_
  refine wp_put (ty := .int) tyX4 tyX4_ok nmX4 hσ (by decide) rfl in_X4_init_X4 2 (by decide) fl_X4_init_18 rfl rfl (by decide +kernel) rfl rfl dX4_init_16 (fun Mx ex => ?_)
  obtain rfl : Mx = pu _ 9 2 (nI 0) := ex
  refine wp_aload_n 0 dX4_init_19 rfl ?_
  refine wp_iconst (v := nI 0) dX4_init_20 (by decide) ?_
  refine wp_put (ty := .boolean) tyX4 tyX4_ok nmX4 hσ (by decide) rfl in_X4_init_X4 3 (by decide) fl_X4_init_21 rfl rfl (by decide +kernel) rfl rfl dX4_init_21 (fun Mx ex => ?_)
  obtain rfl : Mx = pu _ 9 3 (nI 0) := ex
  refine wp_aload_n 0 dX4_init_24 rfl ?_
  refine wp_iconst (v := nI 0) dX4_init_25 (by decide) ?_
  refine wp_put (ty := .int) tyX4 tyX4_ok nmX4 hσ (by decide) rfl in_X4_init_X4 4 (by decide) fl_X4_init_25 rfl rfl (by decide +kernel) rfl rfl dX4_init_26 (fun Mx ex => ?_)
  obtain rfl : Mx = pu _ 9 4 (nI 0) := ex
  refine wp_aload_n 0 dX4_init_29 rfl ?_
  refine wp_bipush (v := nI 8) dX4_init_30 (by decide) ?_
  refine wp_newI (N' := 8) (k' := 1) (n' := 4) (by decide +kernel) (by decide) (by decide) (by decide) (by decide) rfl rfl dX4_init_32 ?_
  refine wp_dup rfl dX4_init_34 ?_
  refine wp_iconst (v := nI 0) dX4_init_35 (by decide) ?_
  refine wp_iconst (v := nI 5) dX4_init_36 (by decide) ?_
  refine wp_iast rfl (by decide) (vil rfl) dX4_init_37 (fun Mx ex => ?_)
  obtain rfl : Mx = pu _ 10 0 (nI 5) := ex
  refine wp_dup rfl dX4_init_38 ?_
  refine wp_iconst (v := nI 1) dX4_init_39 (by decide) ?_
  refine wp_iconst (v := nI 5) dX4_init_40 (by decide) ?_
  refine wp_iast rfl (by decide) (vil rfl) dX4_init_41 (fun Mx ex => ?_)
  obtain rfl : Mx = pu _ 10 1 (nI 5) := ex
  refine wp_dup rfl dX4_init_42 ?_
  refine wp_iconst (v := nI 2) dX4_init_43 (by decide) ?_
  refine wp_iconst (v := nI 0) dX4_init_44 (by decide) ?_
  refine wp_iast rfl (by decide) (vil rfl) dX4_init_45 (fun Mx ex => ?_)
  obtain rfl : Mx = pu _ 10 2 (nI 0) := ex
  refine wp_dup rfl dX4_init_46 ?_
  refine wp_iconst (v := nI 3) dX4_init_47 (by decide) ?_
  refine wp_iconst (v := nI 0) dX4_init_48 (by decide) ?_
  refine wp_iast rfl (by decide) (vil rfl) dX4_init_49 (fun Mx ex => ?_)
  obtain rfl : Mx = pu _ 10 3 (nI 0) := ex
  refine wp_dup rfl dX4_init_50 ?_
  refine wp_iconst (v := nI 4) dX4_init_51 (by decide) ?_
  refine wp_iconst (v := nI 0) dX4_init_52 (by decide) ?_
  refine wp_iast rfl (by decide) (vil rfl) dX4_init_53 (fun Mx ex => ?_)
  obtain rfl : Mx = pu _ 10 4 (nI 0) := ex
  refine wp_dup rfl dX4_init_54 ?_
  refine wp_iconst (v := nI 5) dX4_init_55 (by decide) ?_
  refine wp_iconst (v := nI 0) dX4_init_56 (by decide) ?_
  refine wp_iast rfl (by decide) (vil rfl) dX4_init_57 (fun Mx ex => ?_)
  obtain rfl : Mx = pu _ 10 5 (nI 0) := ex
  refine wp_dup rfl dX4_init_58 ?_
  refine wp_bipush (v := nI 6) dX4_init_59 (by decide) ?_
  refine wp_iconst (v := nI 0) dX4_init_61 (by decide) ?_
  refine wp_iast rfl (by decide) (vil rfl) dX4_init_62 (fun Mx ex => ?_)
  obtain rfl : Mx = pu _ 10 6 (nI 0) := ex
  refine wp_dup rfl dX4_init_63 ?_
  refine wp_bipush (v := nI 7) dX4_init_64 (by decide) ?_
  refine wp_iconst (v := nI 0) dX4_init_66 (by decide) ?_
  refine wp_iast rfl (by decide) (vil rfl) dX4_init_67 (fun Mx ex => ?_)
  obtain rfl : Mx = pu _ 10 7 (nI 0) := ex
  refine wp_putF (fk := [none, none, none, none, none, some none, some none]) (ty := tyX4 5) tyX4 tyX4_ok nmX4 hσ (by decide) rfl in_X4_init_X4 5 (by decide) fl_X4_init_28 (by decide) rfl rfl rfl (tyX4_ok 5 (by decide)) (fun _ => rfl) (fun _ => rfl) dX4_init_68 ?_
  rw [show ([none, none, none, none, none, some none, some none] : List (Option (Option Nat))).set 5 (some (some 10)) = [none, none, none, none, none, some (some 10), some none] from rfl]
  refine wp_aload_n 0 dX4_init_71 rfl ?_
  refine wp_getsN rfl dX4_init_72 ?_
  refine wp_tlen 0 (by decide) dX4_init_75 ?_
  refine wp_newI (N' := 4) (k' := 0) (n' := 0) (by decide +kernel) (by decide) (by decide) (by decide) (by decide) rfl rfl dX4_init_76 ?_
  refine wp_putF (fk := [none, none, none, none, none, some (some 10), some none]) (ty := tyX4 6) tyX4 tyX4_ok nmX4 rfl (by decide) rfl in_X4_init_X4 6 (by decide) fl_X4_init_35 (by decide) rfl rfl rfl (tyX4_ok 6 (by decide)) (fun _ => rfl) (fun _ => rfl) dX4_init_78 ?_
  rw [show ([none, none, none, none, none, some (some 10), some none] : List (Option (Option Nat))).set 6 (some (some 11)) = [none, none, none, none, none, some (some 10), some (some 11)] from rfl]
  refine wp_getsN rfl dX4_init_81 ?_
  refine wp_iconst (v := nI 0) dX4_init_84 (by decide) ?_
  refine wp_aload_n 0 dX4_init_85 rfl ?_
  refine wp_get (v := .ref 11) dX4_init_86 rfl (by decide) rfl in_X4_init_X4 6 (by decide) fl_X4_init_35 rfl rfl ?_
  refine wp_iconst (v := nI 0) dX4_init_89 (by decide) ?_
  refine wp_aload_n 0 dX4_init_90 rfl ?_
  refine wp_get (v := .ref 11) dX4_init_91 rfl (by decide) rfl in_X4_init_X4 6 (by decide) fl_X4_init_35 rfl rfl ?_
  refine wp_alen (v := nI 4) rfl (by decide) (by decide) (by decide) dX4_init_94 ?_
  refine wp_copyT (by decide +kernel) (by decide +kernel) (by decide +kernel) (by decide +kernel) rfl (by decide) (by decide) (by decide) (by decide) (by decide) (by decide) (by decide) (Nat.le_of_ble_eq_true rfl) dX4_init_95 (fun Mx ex => ?_)
  obtain rfl : Mx = cp4 _ 11 := ex
  exact wp_return rfl dX4_init_98 ⟨rfl, rfl, rfl, rfl⟩
def sct_X4_12 (σ : Nat → KD) : Nat → KD := (us (us (us (us σ 13 (.inl (0, 8, false))) 12 (.inr (4, [none, none, none, none, none, some (some 13), some none]))) 14 (.inl (0, 4, false))) 12 (.inr (4, [none, none, none, none, none, some (some 13), some (some 14)])))
def mct_X4_12 (M : Mem) : Mem := (cp4 (nw (pu (pu (pu (pu (pu (pu (pu (pu (nw (pu (pu (pu (pu (pu M 12 0 (nI 1)) 12 1 (nI 1)) 12 2 (nI 0)) 12 3 (nI 0)) 12 4 (nI 0)) 13) 13 0 (nI 5)) 13 1 (nI 5)) 13 2 (nI 0)) 13 3 (nI 0)) 13 4 (nI 0)) 13 5 (nI 0)) 13 6 (nI 0)) 13 7 (nI 0)) 14) 14)
set_option maxRecDepth 100000 in
set_option maxHeartbeats 4000000 in
theorem ct_X4_12 {E : EN} {σ : Nat → KD} {M : Mem} (hσ : σ 12 = .inr (4, [none, none, none, none, none, some none, some none])) : MW E iX4_init 1 2 12 true [.ref 12] σ 13 M (fun v σ' N' M' => v = none ∧ σ' = sct_X4_12 σ ∧ N' = 15 ∧ M' = mct_X4_12 M) := by
  refine mw_intro (ls := [(0, .ref 12)]) rfl (by decide +kernel) rfl rfl (Nat.le_of_ble_eq_true rfl) ?_
  refine wp_aload_n 0 dX4_init_0 rfl ?_
  refine wp_objInit (by decide +kernel) (by decide +kernel) (by decide +kernel) (by decide) (Nat.le_of_ble_eq_true rfl) dX4_init_1 ?_
  refine wp_aload_n 0 dX4_init_4 rfl ?_
  refine wp_iconst (v := nI 1) dX4_init_5 (by decide) ?_
  refine wp_put (ty := .int) tyX4 tyX4_ok nmX4 hσ (by decide) rfl in_X4_init_X4 0 (by decide) fl_X4_init_9 rfl rfl (by decide +kernel) rfl rfl dX4_init_6 (fun Mx ex => ?_)
  obtain rfl : Mx = pu _ 12 0 (nI 1) := ex
  refine wp_aload_n 0 dX4_init_9 rfl ?_
  refine wp_iconst (v := nI 1) dX4_init_10 (by decide) ?_
  refine wp_put (ty := .int) tyX4 tyX4_ok nmX4 hσ (by decide) rfl in_X4_init_X4 1 (by decide) fl_X4_init_15 rfl rfl (by decide +kernel) rfl rfl dX4_init_11 (fun Mx ex => ?_)
  obtain rfl : Mx = pu _ 12 1 (nI 1) := ex
  refine wp_aload_n 0 dX4_init_14 rfl ?_
  refine wp_iconst (v := nI 0) dX4_init_15 (by decide) ?_
  refine wp_put (ty := .int) tyX4 tyX4_ok nmX4 hσ (by decide) rfl in_X4_init_X4 2 (by decide) fl_X4_init_18 rfl rfl (by decide +kernel) rfl rfl dX4_init_16 (fun Mx ex => ?_)
  obtain rfl : Mx = pu _ 12 2 (nI 0) := ex
  refine wp_aload_n 0 dX4_init_19 rfl ?_
  refine wp_iconst (v := nI 0) dX4_init_20 (by decide) ?_
  refine wp_put (ty := .boolean) tyX4 tyX4_ok nmX4 hσ (by decide) rfl in_X4_init_X4 3 (by decide) fl_X4_init_21 rfl rfl (by decide +kernel) rfl rfl dX4_init_21 (fun Mx ex => ?_)
  obtain rfl : Mx = pu _ 12 3 (nI 0) := ex
  refine wp_aload_n 0 dX4_init_24 rfl ?_
  refine wp_iconst (v := nI 0) dX4_init_25 (by decide) ?_
  refine wp_put (ty := .int) tyX4 tyX4_ok nmX4 hσ (by decide) rfl in_X4_init_X4 4 (by decide) fl_X4_init_25 rfl rfl (by decide +kernel) rfl rfl dX4_init_26 (fun Mx ex => ?_)
  obtain rfl : Mx = pu _ 12 4 (nI 0) := ex
  refine wp_aload_n 0 dX4_init_29 rfl ?_
  refine wp_bipush (v := nI 8) dX4_init_30 (by decide) ?_
  refine wp_newI (N' := 8) (k' := 1) (n' := 4) (by decide +kernel) (by decide) (by decide) (by decide) (by decide) rfl rfl dX4_init_32 ?_
  refine wp_dup rfl dX4_init_34 ?_
  refine wp_iconst (v := nI 0) dX4_init_35 (by decide) ?_
  refine wp_iconst (v := nI 5) dX4_init_36 (by decide) ?_
  refine wp_iast rfl (by decide) (vil rfl) dX4_init_37 (fun Mx ex => ?_)
  obtain rfl : Mx = pu _ 13 0 (nI 5) := ex
  refine wp_dup rfl dX4_init_38 ?_
  refine wp_iconst (v := nI 1) dX4_init_39 (by decide) ?_
  refine wp_iconst (v := nI 5) dX4_init_40 (by decide) ?_
  refine wp_iast rfl (by decide) (vil rfl) dX4_init_41 (fun Mx ex => ?_)
  obtain rfl : Mx = pu _ 13 1 (nI 5) := ex
  refine wp_dup rfl dX4_init_42 ?_
  refine wp_iconst (v := nI 2) dX4_init_43 (by decide) ?_
  refine wp_iconst (v := nI 0) dX4_init_44 (by decide) ?_
  refine wp_iast rfl (by decide) (vil rfl) dX4_init_45 (fun Mx ex => ?_)
  obtain rfl : Mx = pu _ 13 2 (nI 0) := ex
  refine wp_dup rfl dX4_init_46 ?_
  refine wp_iconst (v := nI 3) dX4_init_47 (by decide) ?_
  refine wp_iconst (v := nI 0) dX4_init_48 (by decide) ?_
  refine wp_iast rfl (by decide) (vil rfl) dX4_init_49 (fun Mx ex => ?_)
  obtain rfl : Mx = pu _ 13 3 (nI 0) := ex
  refine wp_dup rfl dX4_init_50 ?_
  refine wp_iconst (v := nI 4) dX4_init_51 (by decide) ?_
  refine wp_iconst (v := nI 0) dX4_init_52 (by decide) ?_
  refine wp_iast rfl (by decide) (vil rfl) dX4_init_53 (fun Mx ex => ?_)
  obtain rfl : Mx = pu _ 13 4 (nI 0) := ex
  refine wp_dup rfl dX4_init_54 ?_
  refine wp_iconst (v := nI 5) dX4_init_55 (by decide) ?_
  refine wp_iconst (v := nI 0) dX4_init_56 (by decide) ?_
  refine wp_iast rfl (by decide) (vil rfl) dX4_init_57 (fun Mx ex => ?_)
  obtain rfl : Mx = pu _ 13 5 (nI 0) := ex
  refine wp_dup rfl dX4_init_58 ?_
  refine wp_bipush (v := nI 6) dX4_init_59 (by decide) ?_
  refine wp_iconst (v := nI 0) dX4_init_61 (by decide) ?_
  refine wp_iast rfl (by decide) (vil rfl) dX4_init_62 (fun Mx ex => ?_)
  obtain rfl : Mx = pu _ 13 6 (nI 0) := ex
  refine wp_dup rfl dX4_init_63 ?_
  refine wp_bipush (v := nI 7) dX4_init_64 (by decide) ?_
  refine wp_iconst (v := nI 0) dX4_init_66 (by decide) ?_
  refine wp_iast rfl (by decide) (vil rfl) dX4_init_67 (fun Mx ex => ?_)
  obtain rfl : Mx = pu _ 13 7 (nI 0) := ex
  refine wp_putF (fk := [none, none, none, none, none, some none, some none]) (ty := tyX4 5) tyX4 tyX4_ok nmX4 hσ (by decide) rfl in_X4_init_X4 5 (by decide) fl_X4_init_28 (by decide) rfl rfl rfl (tyX4_ok 5 (by decide)) (fun _ => rfl) (fun _ => rfl) dX4_init_68 ?_
  rw [show ([none, none, none, none, none, some none, some none] : List (Option (Option Nat))).set 5 (some (some 13)) = [none, none, none, none, none, some (some 13), some none] from rfl]
  refine wp_aload_n 0 dX4_init_71 rfl ?_
  refine wp_getsN rfl dX4_init_72 ?_
  refine wp_tlen 0 (by decide) dX4_init_75 ?_
  refine wp_newI (N' := 4) (k' := 0) (n' := 0) (by decide +kernel) (by decide) (by decide) (by decide) (by decide) rfl rfl dX4_init_76 ?_
  refine wp_putF (fk := [none, none, none, none, none, some (some 13), some none]) (ty := tyX4 6) tyX4 tyX4_ok nmX4 rfl (by decide) rfl in_X4_init_X4 6 (by decide) fl_X4_init_35 (by decide) rfl rfl rfl (tyX4_ok 6 (by decide)) (fun _ => rfl) (fun _ => rfl) dX4_init_78 ?_
  rw [show ([none, none, none, none, none, some (some 13), some none] : List (Option (Option Nat))).set 6 (some (some 14)) = [none, none, none, none, none, some (some 13), some (some 14)] from rfl]
  refine wp_getsN rfl dX4_init_81 ?_
  refine wp_iconst (v := nI 0) dX4_init_84 (by decide) ?_
  refine wp_aload_n 0 dX4_init_85 rfl ?_
  refine wp_get (v := .ref 14) dX4_init_86 rfl (by decide) rfl in_X4_init_X4 6 (by decide) fl_X4_init_35 rfl rfl ?_
  refine wp_iconst (v := nI 0) dX4_init_89 (by decide) ?_
  refine wp_aload_n 0 dX4_init_90 rfl ?_
  refine wp_get (v := .ref 14) dX4_init_91 rfl (by decide) rfl in_X4_init_X4 6 (by decide) fl_X4_init_35 rfl rfl ?_
  refine wp_alen (v := nI 4) rfl (by decide) (by decide) (by decide) dX4_init_94 ?_
  refine wp_copyT (by decide +kernel) (by decide +kernel) (by decide +kernel) (by decide +kernel) rfl (by decide) (by decide) (by decide) (by decide) (by decide) (by decide) (by decide) (Nat.le_of_ble_eq_true rfl) dX4_init_95 (fun Mx ex => ?_)
  obtain rfl : Mx = cp4 _ 14 := ex
  exact wp_return rfl dX4_init_98 ⟨rfl, rfl, rfl, rfl⟩
def sct_X4_15 (σ : Nat → KD) : Nat → KD := (us (us (us (us σ 16 (.inl (0, 8, false))) 15 (.inr (4, [none, none, none, none, none, some (some 16), some none]))) 17 (.inl (0, 4, false))) 15 (.inr (4, [none, none, none, none, none, some (some 16), some (some 17)])))
def mct_X4_15 (M : Mem) : Mem := (cp4 (nw (pu (pu (pu (pu (pu (pu (pu (pu (nw (pu (pu (pu (pu (pu M 15 0 (nI 1)) 15 1 (nI 1)) 15 2 (nI 0)) 15 3 (nI 0)) 15 4 (nI 0)) 16) 16 0 (nI 5)) 16 1 (nI 5)) 16 2 (nI 0)) 16 3 (nI 0)) 16 4 (nI 0)) 16 5 (nI 0)) 16 6 (nI 0)) 16 7 (nI 0)) 17) 17)
set_option maxRecDepth 100000 in
set_option maxHeartbeats 4000000 in
theorem ct_X4_15 {E : EN} {σ : Nat → KD} {M : Mem} (hσ : σ 15 = .inr (4, [none, none, none, none, none, some none, some none])) : MW E iX4_init 1 2 12 true [.ref 15] σ 16 M (fun v σ' N' M' => v = none ∧ σ' = sct_X4_15 σ ∧ N' = 18 ∧ M' = mct_X4_15 M) := by
  refine mw_intro (ls := [(0, .ref 15)]) rfl (by decide +kernel) rfl rfl (Nat.le_of_ble_eq_true rfl) ?_
  refine wp_aload_n 0 dX4_init_0 rfl ?_
  refine wp_objInit (by decide +kernel) (by decide +kernel) (by decide +kernel) (by decide) (Nat.le_of_ble_eq_true rfl) dX4_init_1 ?_
  refine wp_aload_n 0 dX4_init_4 rfl ?_
  refine wp_iconst (v := nI 1) dX4_init_5 (by decide) ?_
  refine wp_put (ty := .int) tyX4 tyX4_ok nmX4 hσ (by decide) rfl in_X4_init_X4 0 (by decide) fl_X4_init_9 rfl rfl (by decide +kernel) rfl rfl dX4_init_6 (fun Mx ex => ?_)
  obtain rfl : Mx = pu _ 15 0 (nI 1) := ex
  refine wp_aload_n 0 dX4_init_9 rfl ?_
  refine wp_iconst (v := nI 1) dX4_init_10 (by decide) ?_
  refine wp_put (ty := .int) tyX4 tyX4_ok nmX4 hσ (by decide) rfl in_X4_init_X4 1 (by decide) fl_X4_init_15 rfl rfl (by decide +kernel) rfl rfl dX4_init_11 (fun Mx ex => ?_)
  obtain rfl : Mx = pu _ 15 1 (nI 1) := ex
  refine wp_aload_n 0 dX4_init_14 rfl ?_
  refine wp_iconst (v := nI 0) dX4_init_15 (by decide) ?_
  refine wp_put (ty := .int) tyX4 tyX4_ok nmX4 hσ (by decide) rfl in_X4_init_X4 2 (by decide) fl_X4_init_18 rfl rfl (by decide +kernel) rfl rfl dX4_init_16 (fun Mx ex => ?_)
  obtain rfl : Mx = pu _ 15 2 (nI 0) := ex
  refine wp_aload_n 0 dX4_init_19 rfl ?_
  refine wp_iconst (v := nI 0) dX4_init_20 (by decide) ?_
  refine wp_put (ty := .boolean) tyX4 tyX4_ok nmX4 hσ (by decide) rfl in_X4_init_X4 3 (by decide) fl_X4_init_21 rfl rfl (by decide +kernel) rfl rfl dX4_init_21 (fun Mx ex => ?_)
  obtain rfl : Mx = pu _ 15 3 (nI 0) := ex
  refine wp_aload_n 0 dX4_init_24 rfl ?_
  refine wp_iconst (v := nI 0) dX4_init_25 (by decide) ?_
  refine wp_put (ty := .int) tyX4 tyX4_ok nmX4 hσ (by decide) rfl in_X4_init_X4 4 (by decide) fl_X4_init_25 rfl rfl (by decide +kernel) rfl rfl dX4_init_26 (fun Mx ex => ?_)
  obtain rfl : Mx = pu _ 15 4 (nI 0) := ex
  refine wp_aload_n 0 dX4_init_29 rfl ?_
  refine wp_bipush (v := nI 8) dX4_init_30 (by decide) ?_
  refine wp_newI (N' := 8) (k' := 1) (n' := 4) (by decide +kernel) (by decide) (by decide) (by decide) (by decide) rfl rfl dX4_init_32 ?_
  refine wp_dup rfl dX4_init_34 ?_
  refine wp_iconst (v := nI 0) dX4_init_35 (by decide) ?_
  refine wp_iconst (v := nI 5) dX4_init_36 (by decide) ?_
  refine wp_iast rfl (by decide) (vil rfl) dX4_init_37 (fun Mx ex => ?_)
  obtain rfl : Mx = pu _ 16 0 (nI 5) := ex
  refine wp_dup rfl dX4_init_38 ?_
  refine wp_iconst (v := nI 1) dX4_init_39 (by decide) ?_
  refine wp_iconst (v := nI 5) dX4_init_40 (by decide) ?_
  refine wp_iast rfl (by decide) (vil rfl) dX4_init_41 (fun Mx ex => ?_)
  obtain rfl : Mx = pu _ 16 1 (nI 5) := ex
  refine wp_dup rfl dX4_init_42 ?_
  refine wp_iconst (v := nI 2) dX4_init_43 (by decide) ?_
  refine wp_iconst (v := nI 0) dX4_init_44 (by decide) ?_
  refine wp_iast rfl (by decide) (vil rfl) dX4_init_45 (fun Mx ex => ?_)
  obtain rfl : Mx = pu _ 16 2 (nI 0) := ex
  refine wp_dup rfl dX4_init_46 ?_
  refine wp_iconst (v := nI 3) dX4_init_47 (by decide) ?_
  refine wp_iconst (v := nI 0) dX4_init_48 (by decide) ?_
  refine wp_iast rfl (by decide) (vil rfl) dX4_init_49 (fun Mx ex => ?_)
  obtain rfl : Mx = pu _ 16 3 (nI 0) := ex
  refine wp_dup rfl dX4_init_50 ?_
  refine wp_iconst (v := nI 4) dX4_init_51 (by decide) ?_
  refine wp_iconst (v := nI 0) dX4_init_52 (by decide) ?_
  refine wp_iast rfl (by decide) (vil rfl) dX4_init_53 (fun Mx ex => ?_)
  obtain rfl : Mx = pu _ 16 4 (nI 0) := ex
  refine wp_dup rfl dX4_init_54 ?_
  refine wp_iconst (v := nI 5) dX4_init_55 (by decide) ?_
  refine wp_iconst (v := nI 0) dX4_init_56 (by decide) ?_
  refine wp_iast rfl (by decide) (vil rfl) dX4_init_57 (fun Mx ex => ?_)
  obtain rfl : Mx = pu _ 16 5 (nI 0) := ex
  refine wp_dup rfl dX4_init_58 ?_
  refine wp_bipush (v := nI 6) dX4_init_59 (by decide) ?_
  refine wp_iconst (v := nI 0) dX4_init_61 (by decide) ?_
  refine wp_iast rfl (by decide) (vil rfl) dX4_init_62 (fun Mx ex => ?_)
  obtain rfl : Mx = pu _ 16 6 (nI 0) := ex
  refine wp_dup rfl dX4_init_63 ?_
  refine wp_bipush (v := nI 7) dX4_init_64 (by decide) ?_
  refine wp_iconst (v := nI 0) dX4_init_66 (by decide) ?_
  refine wp_iast rfl (by decide) (vil rfl) dX4_init_67 (fun Mx ex => ?_)
  obtain rfl : Mx = pu _ 16 7 (nI 0) := ex
  refine wp_putF (fk := [none, none, none, none, none, some none, some none]) (ty := tyX4 5) tyX4 tyX4_ok nmX4 hσ (by decide) rfl in_X4_init_X4 5 (by decide) fl_X4_init_28 (by decide) rfl rfl rfl (tyX4_ok 5 (by decide)) (fun _ => rfl) (fun _ => rfl) dX4_init_68 ?_
  rw [show ([none, none, none, none, none, some none, some none] : List (Option (Option Nat))).set 5 (some (some 16)) = [none, none, none, none, none, some (some 16), some none] from rfl]
  refine wp_aload_n 0 dX4_init_71 rfl ?_
  refine wp_getsN rfl dX4_init_72 ?_
  refine wp_tlen 0 (by decide) dX4_init_75 ?_
  refine wp_newI (N' := 4) (k' := 0) (n' := 0) (by decide +kernel) (by decide) (by decide) (by decide) (by decide) rfl rfl dX4_init_76 ?_
  refine wp_putF (fk := [none, none, none, none, none, some (some 16), some none]) (ty := tyX4 6) tyX4 tyX4_ok nmX4 rfl (by decide) rfl in_X4_init_X4 6 (by decide) fl_X4_init_35 (by decide) rfl rfl rfl (tyX4_ok 6 (by decide)) (fun _ => rfl) (fun _ => rfl) dX4_init_78 ?_
  rw [show ([none, none, none, none, none, some (some 16), some none] : List (Option (Option Nat))).set 6 (some (some 17)) = [none, none, none, none, none, some (some 16), some (some 17)] from rfl]
  refine wp_getsN rfl dX4_init_81 ?_
  refine wp_iconst (v := nI 0) dX4_init_84 (by decide) ?_
  refine wp_aload_n 0 dX4_init_85 rfl ?_
  refine wp_get (v := .ref 17) dX4_init_86 rfl (by decide) rfl in_X4_init_X4 6 (by decide) fl_X4_init_35 rfl rfl ?_
  refine wp_iconst (v := nI 0) dX4_init_89 (by decide) ?_
  refine wp_aload_n 0 dX4_init_90 rfl ?_
  refine wp_get (v := .ref 17) dX4_init_91 rfl (by decide) rfl in_X4_init_X4 6 (by decide) fl_X4_init_35 rfl rfl ?_
  refine wp_alen (v := nI 4) rfl (by decide) (by decide) (by decide) dX4_init_94 ?_
  refine wp_copyT (by decide +kernel) (by decide +kernel) (by decide +kernel) (by decide +kernel) rfl (by decide) (by decide) (by decide) (by decide) (by decide) (by decide) (by decide) (Nat.le_of_ble_eq_true rfl) dX4_init_95 (fun Mx ex => ?_)
  obtain rfl : Mx = cp4 _ 17 := ex
  exact wp_return rfl dX4_init_98 ⟨rfl, rfl, rfl, rfl⟩
def sct_X4_18 (σ : Nat → KD) : Nat → KD := (us (us (us (us σ 19 (.inl (0, 8, false))) 18 (.inr (4, [none, none, none, none, none, some (some 19), some none]))) 20 (.inl (0, 4, false))) 18 (.inr (4, [none, none, none, none, none, some (some 19), some (some 20)])))
def mct_X4_18 (M : Mem) : Mem := (cp4 (nw (pu (pu (pu (pu (pu (pu (pu (pu (nw (pu (pu (pu (pu (pu M 18 0 (nI 1)) 18 1 (nI 1)) 18 2 (nI 0)) 18 3 (nI 0)) 18 4 (nI 0)) 19) 19 0 (nI 5)) 19 1 (nI 5)) 19 2 (nI 0)) 19 3 (nI 0)) 19 4 (nI 0)) 19 5 (nI 0)) 19 6 (nI 0)) 19 7 (nI 0)) 20) 20)
set_option maxRecDepth 100000 in
set_option maxHeartbeats 4000000 in
theorem ct_X4_18 {E : EN} {σ : Nat → KD} {M : Mem} (hσ : σ 18 = .inr (4, [none, none, none, none, none, some none, some none])) : MW E iX4_init 1 2 12 true [.ref 18] σ 19 M (fun v σ' N' M' => v = none ∧ σ' = sct_X4_18 σ ∧ N' = 21 ∧ M' = mct_X4_18 M) := by
  refine mw_intro (ls := [(0, .ref 18)]) rfl (by decide +kernel) rfl rfl (Nat.le_of_ble_eq_true rfl) ?_
  refine wp_aload_n 0 dX4_init_0 rfl ?_
  refine wp_objInit (by decide +kernel) (by decide +kernel) (by decide +kernel) (by decide) (Nat.le_of_ble_eq_true rfl) dX4_init_1 ?_
  refine wp_aload_n 0 dX4_init_4 rfl ?_
  refine wp_iconst (v := nI 1) dX4_init_5 (by decide) ?_
  refine wp_put (ty := .int) tyX4 tyX4_ok nmX4 hσ (by decide) rfl in_X4_init_X4 0 (by decide) fl_X4_init_9 rfl rfl (by decide +kernel) rfl rfl dX4_init_6 (fun Mx ex => ?_)
  obtain rfl : Mx = pu _ 18 0 (nI 1) := ex
  refine wp_aload_n 0 dX4_init_9 rfl ?_
  refine wp_iconst (v := nI 1) dX4_init_10 (by decide) ?_
  refine wp_put (ty := .int) tyX4 tyX4_ok nmX4 hσ (by decide) rfl in_X4_init_X4 1 (by decide) fl_X4_init_15 rfl rfl (by decide +kernel) rfl rfl dX4_init_11 (fun Mx ex => ?_)
  obtain rfl : Mx = pu _ 18 1 (nI 1) := ex
  refine wp_aload_n 0 dX4_init_14 rfl ?_
  refine wp_iconst (v := nI 0) dX4_init_15 (by decide) ?_
  refine wp_put (ty := .int) tyX4 tyX4_ok nmX4 hσ (by decide) rfl in_X4_init_X4 2 (by decide) fl_X4_init_18 rfl rfl (by decide +kernel) rfl rfl dX4_init_16 (fun Mx ex => ?_)
  obtain rfl : Mx = pu _ 18 2 (nI 0) := ex
  refine wp_aload_n 0 dX4_init_19 rfl ?_
  refine wp_iconst (v := nI 0) dX4_init_20 (by decide) ?_
  refine wp_put (ty := .boolean) tyX4 tyX4_ok nmX4 hσ (by decide) rfl in_X4_init_X4 3 (by decide) fl_X4_init_21 rfl rfl (by decide +kernel) rfl rfl dX4_init_21 (fun Mx ex => ?_)
  obtain rfl : Mx = pu _ 18 3 (nI 0) := ex
  refine wp_aload_n 0 dX4_init_24 rfl ?_
  refine wp_iconst (v := nI 0) dX4_init_25 (by decide) ?_
  refine wp_put (ty := .int) tyX4 tyX4_ok nmX4 hσ (by decide) rfl in_X4_init_X4 4 (by decide) fl_X4_init_25 rfl rfl (by decide +kernel) rfl rfl dX4_init_26 (fun Mx ex => ?_)
  obtain rfl : Mx = pu _ 18 4 (nI 0) := ex
  refine wp_aload_n 0 dX4_init_29 rfl ?_
  refine wp_bipush (v := nI 8) dX4_init_30 (by decide) ?_
  refine wp_newI (N' := 8) (k' := 1) (n' := 4) (by decide +kernel) (by decide) (by decide) (by decide) (by decide) rfl rfl dX4_init_32 ?_
  refine wp_dup rfl dX4_init_34 ?_
  refine wp_iconst (v := nI 0) dX4_init_35 (by decide) ?_
  refine wp_iconst (v := nI 5) dX4_init_36 (by decide) ?_
  refine wp_iast rfl (by decide) (vil rfl) dX4_init_37 (fun Mx ex => ?_)
  obtain rfl : Mx = pu _ 19 0 (nI 5) := ex
  refine wp_dup rfl dX4_init_38 ?_
  refine wp_iconst (v := nI 1) dX4_init_39 (by decide) ?_
  refine wp_iconst (v := nI 5) dX4_init_40 (by decide) ?_
  refine wp_iast rfl (by decide) (vil rfl) dX4_init_41 (fun Mx ex => ?_)
  obtain rfl : Mx = pu _ 19 1 (nI 5) := ex
  refine wp_dup rfl dX4_init_42 ?_
  refine wp_iconst (v := nI 2) dX4_init_43 (by decide) ?_
  refine wp_iconst (v := nI 0) dX4_init_44 (by decide) ?_
  refine wp_iast rfl (by decide) (vil rfl) dX4_init_45 (fun Mx ex => ?_)
  obtain rfl : Mx = pu _ 19 2 (nI 0) := ex
  refine wp_dup rfl dX4_init_46 ?_
  refine wp_iconst (v := nI 3) dX4_init_47 (by decide) ?_
  refine wp_iconst (v := nI 0) dX4_init_48 (by decide) ?_
  refine wp_iast rfl (by decide) (vil rfl) dX4_init_49 (fun Mx ex => ?_)
  obtain rfl : Mx = pu _ 19 3 (nI 0) := ex
  refine wp_dup rfl dX4_init_50 ?_
  refine wp_iconst (v := nI 4) dX4_init_51 (by decide) ?_
  refine wp_iconst (v := nI 0) dX4_init_52 (by decide) ?_
  refine wp_iast rfl (by decide) (vil rfl) dX4_init_53 (fun Mx ex => ?_)
  obtain rfl : Mx = pu _ 19 4 (nI 0) := ex
  refine wp_dup rfl dX4_init_54 ?_
  refine wp_iconst (v := nI 5) dX4_init_55 (by decide) ?_
  refine wp_iconst (v := nI 0) dX4_init_56 (by decide) ?_
  refine wp_iast rfl (by decide) (vil rfl) dX4_init_57 (fun Mx ex => ?_)
  obtain rfl : Mx = pu _ 19 5 (nI 0) := ex
  refine wp_dup rfl dX4_init_58 ?_
  refine wp_bipush (v := nI 6) dX4_init_59 (by decide) ?_
  refine wp_iconst (v := nI 0) dX4_init_61 (by decide) ?_
  refine wp_iast rfl (by decide) (vil rfl) dX4_init_62 (fun Mx ex => ?_)
  obtain rfl : Mx = pu _ 19 6 (nI 0) := ex
  refine wp_dup rfl dX4_init_63 ?_
  refine wp_bipush (v := nI 7) dX4_init_64 (by decide) ?_
  refine wp_iconst (v := nI 0) dX4_init_66 (by decide) ?_
  refine wp_iast rfl (by decide) (vil rfl) dX4_init_67 (fun Mx ex => ?_)
  obtain rfl : Mx = pu _ 19 7 (nI 0) := ex
  refine wp_putF (fk := [none, none, none, none, none, some none, some none]) (ty := tyX4 5) tyX4 tyX4_ok nmX4 hσ (by decide) rfl in_X4_init_X4 5 (by decide) fl_X4_init_28 (by decide) rfl rfl rfl (tyX4_ok 5 (by decide)) (fun _ => rfl) (fun _ => rfl) dX4_init_68 ?_
  rw [show ([none, none, none, none, none, some none, some none] : List (Option (Option Nat))).set 5 (some (some 19)) = [none, none, none, none, none, some (some 19), some none] from rfl]
  refine wp_aload_n 0 dX4_init_71 rfl ?_
  refine wp_getsN rfl dX4_init_72 ?_
  refine wp_tlen 0 (by decide) dX4_init_75 ?_
  refine wp_newI (N' := 4) (k' := 0) (n' := 0) (by decide +kernel) (by decide) (by decide) (by decide) (by decide) rfl rfl dX4_init_76 ?_
  refine wp_putF (fk := [none, none, none, none, none, some (some 19), some none]) (ty := tyX4 6) tyX4 tyX4_ok nmX4 rfl (by decide) rfl in_X4_init_X4 6 (by decide) fl_X4_init_35 (by decide) rfl rfl rfl (tyX4_ok 6 (by decide)) (fun _ => rfl) (fun _ => rfl) dX4_init_78 ?_
  rw [show ([none, none, none, none, none, some (some 19), some none] : List (Option (Option Nat))).set 6 (some (some 20)) = [none, none, none, none, none, some (some 19), some (some 20)] from rfl]
  refine wp_getsN rfl dX4_init_81 ?_
  refine wp_iconst (v := nI 0) dX4_init_84 (by decide) ?_
  refine wp_aload_n 0 dX4_init_85 rfl ?_
  refine wp_get (v := .ref 20) dX4_init_86 rfl (by decide) rfl in_X4_init_X4 6 (by decide) fl_X4_init_35 rfl rfl ?_
  refine wp_iconst (v := nI 0) dX4_init_89 (by decide) ?_
  refine wp_aload_n 0 dX4_init_90 rfl ?_
  refine wp_get (v := .ref 20) dX4_init_91 rfl (by decide) rfl in_X4_init_X4 6 (by decide) fl_X4_init_35 rfl rfl ?_
  refine wp_alen (v := nI 4) rfl (by decide) (by decide) (by decide) dX4_init_94 ?_
  refine wp_copyT (by decide +kernel) (by decide +kernel) (by decide +kernel) (by decide +kernel) rfl (by decide) (by decide) (by decide) (by decide) (by decide) (by decide) (by decide) (Nat.le_of_ble_eq_true rfl) dX4_init_95 (fun Mx ex => ?_)
  obtain rfl : Mx = cp4 _ 20 := ex
  exact wp_return rfl dX4_init_98 ⟨rfl, rfl, rfl, rfl⟩
def sct_X0_7 (σ : Nat → KD) : Nat → KD := (sct_X4_18 (us (sct_X4_15 (us (sct_X4_12 (us (sct_X4_9 (us (us (us σ 8 (.inl (3, 4, true))) 7 (.inr (0, [none, some (some 8)]))) 9 (.inr (4, [none, none, none, none, none, some none, some none])))) 12 (.inr (4, [none, none, none, none, none, some none, some none])))) 15 (.inr (4, [none, none, none, none, none, some none, some none])))) 18 (.inr (4, [none, none, none, none, none, some none, some none]))))
def mct_X0_7 (M : Mem) : Mem := (pu (mct_X4_18 (nw (pu (mct_X4_15 (nw (pu (mct_X4_12 (nw (pu (mct_X4_9 (nw (nwq (pu M 7 0 (nI 0)) 8) 9)) 8 0 (nI 9)) 12)) 8 1 (nI 12)) 15)) 8 2 (nI 15)) 18)) 8 3 (nI 18))
set_option maxRecDepth 100000 in
set_option maxHeartbeats 4000000 in
theorem ct_X0_7 {E : EN} {σ : Nat → KD} {M : Mem} (hσ : σ 7 = .inr (0, [none, some none])) : MW E iX0_init 2 13 80 true [.ref 7] σ 8 M (fun v σ' N' M' => v = none ∧ σ' = sct_X0_7 σ ∧ N' = 21 ∧ M' = mct_X0_7 M) := by
  refine mw_intro (ls := [(0, .ref 7)]) rfl (by decide +kernel) rfl rfl (Nat.le_of_ble_eq_true rfl) ?_
  refine wp_aload_n 0 dX0_init_0 rfl ?_
  refine wp_objInit (by decide +kernel) (by decide +kernel) (by decide +kernel) (by decide) (Nat.le_of_ble_eq_true rfl) dX0_init_1 ?_
  refine wp_aload_n 0 dX0_init_4 rfl ?_
  refine wp_iconst (v := nI 0) dX0_init_5 (by decide) ?_
  refine wp_put (ty := .int) tyX0 tyX0_ok nmX0 hσ (by decide) rfl in_X0_init_X0 0 (by decide) fl_X0_init_9 rfl rfl (by decide +kernel) rfl rfl dX0_init_6 (fun Mx ex => ?_)
  obtain rfl : Mx = pu _ 7 0 (nI 0) := ex
  refine wp_aload_n 0 dX0_init_9 rfl ?_
  refine wp_iconst (v := nI 4) dX0_init_10 (by decide) ?_
  refine wp_newQ (N' := 4) (k' := 12) (n' := 76) (by decide +kernel) (by decide) (by decide) (by decide) (by decide) rfl rfl dX0_init_11 ?_
  refine wp_putF (fk := [none, some none]) (ty := tyX0 1) tyX0 tyX0_ok nmX0 hσ (by decide) rfl in_X0_init_X0 1 (by decide) fl_X0_init_17 (by decide) rfl rfl rfl (tyX0_ok 1 (by decide)) (fun _ => rfl) (fun _ => rfl) dX0_init_14 ?_
  rw [show ([none, some none] : List (Option (Option Nat))).set 1 (some (some 8)) = [none, some (some 8)] from rfl]
  refine wp_iconst (v := nI 0) dX0_init_17 (by decide) ?_
  refine wp_istore_n (ls' := [(0, .ref 7), (1, .int (nI 0))]) [1, 0] dX0_init_18 rfl (by decide) ?_
  refine wp_iload_n 1 dX0_init_19 rfl ?_
  refine wp_aload_n 0 dX0_init_20 rfl ?_
  refine wp_get (v := .ref 8) dX0_init_21 rfl (by decide) rfl in_X0_init_X0 1 (by decide) fl_X0_init_17 rfl rfl ?_
  refine wp_alen (v := nI 4) rfl (by decide) (by decide) (by decide) dX0_init_24 ?_
  refine wp_icmp_ge (tgt := 47) dX0_init_25 (by decide) (fun c => absurd c (by decide)) (fun _ => ?_)
  refine wp_aload_n 0 dX0_init_28 rfl ?_
  refine wp_get (v := .ref 8) dX0_init_29 rfl (by decide) rfl in_X0_init_X0 1 (by decide) fl_X0_init_17 rfl rfl ?_
  refine wp_iload_n 1 dX0_init_32 rfl ?_
  refine wp_new (ci := 4) (T := TX4) (fk := [none, none, none, none, none, some none, some none]) (k' := 11) (n' := 69) tyX4 tyX4_ok rfl in_X0_init_X4 (by decide +kernel) (by decide +kernel) (by decide +kernel) (by decide) (by decide) (by decide) rfl rfl dX0_init_33 ?_
  refine wp_dup rfl dX0_init_36 ?_
  refine wp_callI (As := []) (st := [.ref 9, .int (nI 0), .ref 8]) (k' := 2) (n' := 12) (k'' := 9) (n'' := 57) (ct_X4_9 (E := E) rfl) gX0_init_X4_init rfl (by decide +kernel) (by decide +kernel) (by decide +kernel) rfl hy_X4_init rfl (by decide) (by decide) (Nat.le_of_ble_eq_true rfl) rfl rfl rfl dX0_init_37 ?_
  rintro _ _ _ _ ⟨rfl, rfl, rfl, rfl⟩
  refine wp_aast rfl (by decide) rfl (by decide) (vil rfl) dX0_init_40 (fun Mx ex => ?_)
  obtain rfl : Mx = pu _ 8 0 (nI 9) := ex
  refine wp_iinc (v := nI 1) (ls' := [(0, .ref 7), (1, .int (nI 1))]) 1 [1, 0] dX0_init_41 rfl (by decide) rfl (by decide) ?_
  refine wp_goto (tgt := 19) dX0_init_44 (by decide) ?_
  refine wp_iload_n 1 dX0_init_19 rfl ?_
  refine wp_aload_n 0 dX0_init_20 rfl ?_
  refine wp_get (v := .ref 8) dX0_init_21 rfl (by decide) rfl in_X0_init_X0 1 (by decide) fl_X0_init_17 rfl rfl ?_
  refine wp_alen (v := nI 4) rfl (by decide) (by decide) (by decide) dX0_init_24 ?_
  refine wp_icmp_ge (tgt := 47) dX0_init_25 (by decide) (fun c => absurd c (by decide)) (fun _ => ?_)
  refine wp_aload_n 0 dX0_init_28 rfl ?_
  refine wp_get (v := .ref 8) dX0_init_29 rfl (by decide) rfl in_X0_init_X0 1 (by decide) fl_X0_init_17 rfl rfl ?_
  refine wp_iload_n 1 dX0_init_32 rfl ?_
  refine wp_new (ci := 4) (T := TX4) (fk := [none, none, none, none, none, some none, some none]) (k' := 8) (n' := 50) tyX4 tyX4_ok rfl in_X0_init_X4 (by decide +kernel) (by decide +kernel) (by decide +kernel) (by decide) (by decide) (by decide) rfl rfl dX0_init_33 ?_
  refine wp_dup rfl dX0_init_36 ?_
  refine wp_callI (As := []) (st := [.ref 12, .int (nI 1), .ref 8]) (k' := 2) (n' := 12) (k'' := 6) (n'' := 38) (ct_X4_12 (E := E) rfl) gX0_init_X4_init rfl (by decide +kernel) (by decide +kernel) (by decide +kernel) rfl hy_X4_init rfl (by decide) (by decide) (Nat.le_of_ble_eq_true rfl) rfl rfl rfl dX0_init_37 ?_
  rintro _ _ _ _ ⟨rfl, rfl, rfl, rfl⟩
  refine wp_aast rfl (by decide) rfl (by decide) (vil rfl) dX0_init_40 (fun Mx ex => ?_)
  obtain rfl : Mx = pu _ 8 1 (nI 12) := ex
  refine wp_iinc (v := nI 2) (ls' := [(0, .ref 7), (1, .int (nI 2))]) 1 [1, 0] dX0_init_41 rfl (by decide) rfl (by decide) ?_
  refine wp_goto (tgt := 19) dX0_init_44 (by decide) ?_
  refine wp_iload_n 1 dX0_init_19 rfl ?_
  refine wp_aload_n 0 dX0_init_20 rfl ?_
  refine wp_get (v := .ref 8) dX0_init_21 rfl (by decide) rfl in_X0_init_X0 1 (by decide) fl_X0_init_17 rfl rfl ?_
  refine wp_alen (v := nI 4) rfl (by decide) (by decide) (by decide) dX0_init_24 ?_
  refine wp_icmp_ge (tgt := 47) dX0_init_25 (by decide) (fun c => absurd c (by decide)) (fun _ => ?_)
  refine wp_aload_n 0 dX0_init_28 rfl ?_
  refine wp_get (v := .ref 8) dX0_init_29 rfl (by decide) rfl in_X0_init_X0 1 (by decide) fl_X0_init_17 rfl rfl ?_
  refine wp_iload_n 1 dX0_init_32 rfl ?_
  refine wp_new (ci := 4) (T := TX4) (fk := [none, none, none, none, none, some none, some none]) (k' := 5) (n' := 31) tyX4 tyX4_ok rfl in_X0_init_X4 (by decide +kernel) (by decide +kernel) (by decide +kernel) (by decide) (by decide) (by decide) rfl rfl dX0_init_33 ?_
  refine wp_dup rfl dX0_init_36 ?_
  refine wp_callI (As := []) (st := [.ref 15, .int (nI 2), .ref 8]) (k' := 2) (n' := 12) (k'' := 3) (n'' := 19) (ct_X4_15 (E := E) rfl) gX0_init_X4_init rfl (by decide +kernel) (by decide +kernel) (by decide +kernel) rfl hy_X4_init rfl (by decide) (by decide) (Nat.le_of_ble_eq_true rfl) rfl rfl rfl dX0_init_37 ?_
  rintro _ _ _ _ ⟨rfl, rfl, rfl, rfl⟩
  refine wp_aast rfl (by decide) rfl (by decide) (vil rfl) dX0_init_40 (fun Mx ex => ?_)
  obtain rfl : Mx = pu _ 8 2 (nI 15) := ex
  refine wp_iinc (v := nI 3) (ls' := [(0, .ref 7), (1, .int (nI 3))]) 1 [1, 0] dX0_init_41 rfl (by decide) rfl (by decide) ?_
  refine wp_goto (tgt := 19) dX0_init_44 (by decide) ?_
  refine wp_iload_n 1 dX0_init_19 rfl ?_
  refine wp_aload_n 0 dX0_init_20 rfl ?_
  refine wp_get (v := .ref 8) dX0_init_21 rfl (by decide) rfl in_X0_init_X0 1 (by decide) fl_X0_init_17 rfl rfl ?_
  refine wp_alen (v := nI 4) rfl (by decide) (by decide) (by decide) dX0_init_24 ?_
  refine wp_icmp_ge (tgt := 47) dX0_init_25 (by decide) (fun c => absurd c (by decide)) (fun _ => ?_)
  refine wp_aload_n 0 dX0_init_28 rfl ?_
  refine wp_get (v := .ref 8) dX0_init_29 rfl (by decide) rfl in_X0_init_X0 1 (by decide) fl_X0_init_17 rfl rfl ?_
  refine wp_iload_n 1 dX0_init_32 rfl ?_
  refine wp_new (ci := 4) (T := TX4) (fk := [none, none, none, none, none, some none, some none]) (k' := 2) (n' := 12) tyX4 tyX4_ok rfl in_X0_init_X4 (by decide +kernel) (by decide +kernel) (by decide +kernel) (by decide) (by decide) (by decide) rfl rfl dX0_init_33 ?_
  refine wp_dup rfl dX0_init_36 ?_
  refine wp_callI (As := []) (st := [.ref 18, .int (nI 3), .ref 8]) (k' := 2) (n' := 12) (k'' := 0) (n'' := 0) (ct_X4_18 (E := E) rfl) gX0_init_X4_init rfl (by decide +kernel) (by decide +kernel) (by decide +kernel) rfl hy_X4_init rfl (by decide) (by decide) (Nat.le_of_ble_eq_true rfl) rfl rfl rfl dX0_init_37 ?_
  rintro _ _ _ _ ⟨rfl, rfl, rfl, rfl⟩
  refine wp_aast rfl (by decide) rfl (by decide) (vil rfl) dX0_init_40 (fun Mx ex => ?_)
  obtain rfl : Mx = pu _ 8 3 (nI 18) := ex
  refine wp_iinc (v := nI 4) (ls' := [(0, .ref 7), (1, .int (nI 4))]) 1 [1, 0] dX0_init_41 rfl (by decide) rfl (by decide) ?_
  refine wp_goto (tgt := 19) dX0_init_44 (by decide) ?_
  refine wp_iload_n 1 dX0_init_19 rfl ?_
  refine wp_aload_n 0 dX0_init_20 rfl ?_
  refine wp_get (v := .ref 8) dX0_init_21 rfl (by decide) rfl in_X0_init_X0 1 (by decide) fl_X0_init_17 rfl rfl ?_
  refine wp_alen (v := nI 4) rfl (by decide) (by decide) (by decide) dX0_init_24 ?_
  refine wp_icmp_ge (tgt := 47) dX0_init_25 (by decide) (fun _ => ?_) (fun c => absurd (by decide) c)
  exact wp_return rfl dX0_init_47 ⟨rfl, rfl, rfl, rfl⟩
def sct_X5_21 (σ : Nat → KD) : Nat → KD := (us (us σ 22 (.inl (1, 60, false))) 21 (.inr (5, [none, some (some 22)])))
def mct_X5_21 (M : Mem) : Mem := (nw (pu M 21 0 (nI 0)) 22)
set_option maxRecDepth 100000 in
set_option maxHeartbeats 4000000 in
theorem ct_X5_21 {E : EN} {σ : Nat → KD} {M : Mem} (hσ : σ 21 = .inr (5, [none, some none])) : MW E iX5_init 1 1 60 true [.ref 21] σ 22 M (fun v σ' N' M' => v = none ∧ σ' = sct_X5_21 σ ∧ N' = 23 ∧ M' = mct_X5_21 M) := by
  refine mw_intro (ls := [(0, .ref 21)]) rfl (by decide +kernel) rfl rfl (Nat.le_of_ble_eq_true rfl) ?_
  refine wp_aload_n 0 dX5_init_0 rfl ?_
  refine wp_objInit (by decide +kernel) (by decide +kernel) (by decide +kernel) (by decide) (Nat.le_of_ble_eq_true rfl) dX5_init_1 ?_
  refine wp_aload_n 0 dX5_init_4 rfl ?_
  refine wp_iconst (v := nI 0) dX5_init_5 (by decide) ?_
  refine wp_put (ty := .int) tyX5 tyX5_ok nmX5 hσ (by decide) rfl in_X5_init_X5 0 (by decide) fl_X5_init_9 rfl rfl (by decide +kernel) rfl rfl dX5_init_6 (fun Mx ex => ?_)
  obtain rfl : Mx = pu _ 21 0 (nI 0) := ex
  refine wp_aload_n 0 dX5_init_9 rfl ?_
  refine wp_bipush (v := nI 60) dX5_init_10 (by decide) ?_
  refine wp_newC (N' := 60) (k' := 0) (n' := 0) (by decide +kernel) (by decide) (by decide) (by decide) (by decide) rfl rfl dX5_init_12 ?_
  refine wp_putF (fk := [none, some none]) (ty := tyX5 1) tyX5 tyX5_ok nmX5 hσ (by decide) rfl in_X5_init_X5 1 (by decide) fl_X5_init_15 (by decide) rfl rfl rfl (tyX5_ok 1 (by decide)) (fun _ => rfl) (fun _ => rfl) dX5_init_14 ?_
  rw [show ([none, some none] : List (Option (Option Nat))).set 1 (some (some 22)) = [none, some (some 22)] from rfl]
  exact wp_return rfl dX5_init_17 ⟨rfl, rfl, rfl, rfl⟩
def sct_X3_24 (σ : Nat → KD) : Nat → KD := (us (us (us (us (us (us (us (us (us (us (us (us σ 25 (.inl (0, 8, false))) 24 (.inr (3, [none, none, none, none, none, some (some 25), some none, some none, some none, some none, some none]))) 26 (.inl (0, 8, false))) 24 (.inr (3, [none, none, none, none, none, some (some 25), some (some 26), some none, some none, some none, some none]))) 27 (.inl (0, 8, false))) 24 (.inr (3, [none, none, none, none, none, some (some 25), some (some 26), some (some 27), some none, some none, some none]))) 28 (.inl (0, 8, false))) 24 (.inr (3, [none, none, none, none, none, some (some 25), some (some 26), some (some 27), some (some 28), some none, some none]))) 29 (.inl (0, 8, false))) 24 (.inr (3, [none, none, none, none, none, some (some 25), some (some 26), some (some 27), some (some 28), some (some 29), some none]))) 30 (.inl (0, 8, false))) 24 (.inr (3, [none, none, none, none, none, some (some 25), some (some 26), some (some 27), some (some 28), some (some 29), some (some 30)])))
def mct_X3_24 (M : Mem) : Mem := (nw (nw (nw (nw (nw (nw M 25) 26) 27) 28) 29) 30)
set_option maxRecDepth 100000 in
set_option maxHeartbeats 4000000 in
theorem ct_X3_24 {E : EN} {σ : Nat → KD} {M : Mem} (hσ : σ 24 = .inr (3, [none, none, none, none, none, some none, some none, some none, some none, some none, some none])) : MW E iX3_init 1 6 48 true [.ref 24] σ 25 M (fun v σ' N' M' => v = none ∧ σ' = sct_X3_24 σ ∧ N' = 31 ∧ M' = mct_X3_24 M) := by
  refine mw_intro (ls := [(0, .ref 24)]) rfl (by decide +kernel) rfl rfl (Nat.le_of_ble_eq_true rfl) ?_
  refine wp_aload_n 0 dX3_init_0 rfl ?_
  refine wp_objInit (by decide +kernel) (by decide +kernel) (by decide +kernel) (by decide) (Nat.le_of_ble_eq_true rfl) dX3_init_1 ?_
  refine wp_aload_n 0 dX3_init_4 rfl ?_
  refine wp_bipush (v := nI 8) dX3_init_5 (by decide) ?_
  refine wp_newI (N' := 8) (k' := 5) (n' := 40) (by decide +kernel) (by decide) (by decide) (by decide) (by decide) rfl rfl dX3_init_7 ?_
  refine wp_putF (fk := [none, none, none, none, none, some none, some none, some none, some none, some none, some none]) (ty := tyX3 5) tyX3 tyX3_ok nmX3 hσ (by decide) rfl in_X3_init_X3 5 (by decide) fl_X3_init_9 (by decide) rfl rfl rfl (tyX3_ok 5 (by decide)) (fun _ => rfl) (fun _ => rfl) dX3_init_9 ?_
  rw [show ([none, none, none, none, none, some none, some none, some none, some none, some none, some none] : List (Option (Option Nat))).set 5 (some (some 25)) = [none, none, none, none, none, some (some 25), some none, some none, some none, some none, some none] from rfl]
  refine wp_aload_n 0 dX3_init_12 rfl ?_
  refine wp_bipush (v := nI 8) dX3_init_13 (by decide) ?_
  refine wp_newI (N' := 8) (k' := 4) (n' := 32) (by decide +kernel) (by decide) (by decide) (by decide) (by decide) rfl rfl dX3_init_15 ?_
  refine wp_putF (fk := [none, none, none, none, none, some (some 25), some none, some none, some none, some none, some none]) (ty := tyX3 6) tyX3 tyX3_ok nmX3 rfl (by decide) rfl in_X3_init_X3 6 (by decide) fl_X3_init_15 (by decide) rfl rfl rfl (tyX3_ok 6 (by decide)) (fun _ => rfl) (fun _ => rfl) dX3_init_17 ?_
  rw [show ([none, none, none, none, none, some (some 25), some none, some none, some none, some none, some none] : List (Option (Option Nat))).set 6 (some (some 26)) = [none, none, none, none, none, some (some 25), some (some 26), some none, some none, some none, some none] from rfl]
  refine wp_aload_n 0 dX3_init_20 rfl ?_
  refine wp_bipush (v := nI 8) dX3_init_21 (by decide) ?_
  refine wp_newI (N' := 8) (k' := 3) (n' := 24) (by decide +kernel) (by decide) (by decide) (by decide) (by decide) rfl rfl dX3_init_23 ?_
  refine wp_putF (fk := [none, none, none, none, none, some (some 25), some (some 26), some none, some none, some none, some none]) (ty := tyX3 7) tyX3 tyX3_ok nmX3 rfl (by decide) rfl in_X3_init_X3 7 (by decide) fl_X3_init_18 (by decide) rfl rfl rfl (tyX3_ok 7 (by decide)) (fun _ => rfl) (fun _ => rfl) dX3_init_25 ?_
  rw [show ([none, none, none, none, none, some (some 25), some (some 26), some none, some none, some none, some none] : List (Option (Option Nat))).set 7 (some (some 27)) = [none, none, none, none, none, some (some 25), some (some 26), some (some 27), some none, some none, some none] from rfl]
  refine wp_aload_n 0 dX3_init_28 rfl ?_
  refine wp_bipush (v := nI 8) dX3_init_29 (by decide) ?_
  refine wp_newI (N' := 8) (k' := 2) (n' := 16) (by decide +kernel) (by decide) (by decide) (by decide) (by decide) rfl rfl dX3_init_31 ?_
  refine wp_putF (fk := [none, none, none, none, none, some (some 25), some (some 26), some (some 27), some none, some none, some none]) (ty := tyX3 8) tyX3 tyX3_ok nmX3 rfl (by decide) rfl in_X3_init_X3 8 (by decide) fl_X3_init_21 (by decide) rfl rfl rfl (tyX3_ok 8 (by decide)) (fun _ => rfl) (fun _ => rfl) dX3_init_33 ?_
  rw [show ([none, none, none, none, none, some (some 25), some (some 26), some (some 27), some none, some none, some none] : List (Option (Option Nat))).set 8 (some (some 28)) = [none, none, none, none, none, some (some 25), some (some 26), some (some 27), some (some 28), some none, some none] from rfl]
  refine wp_aload_n 0 dX3_init_36 rfl ?_
  refine wp_bipush (v := nI 8) dX3_init_37 (by decide) ?_
  refine wp_newI (N' := 8) (k' := 1) (n' := 8) (by decide +kernel) (by decide) (by decide) (by decide) (by decide) rfl rfl dX3_init_39 ?_
  refine wp_putF (fk := [none, none, none, none, none, some (some 25), some (some 26), some (some 27), some (some 28), some none, some none]) (ty := tyX3 9) tyX3 tyX3_ok nmX3 rfl (by decide) rfl in_X3_init_X3 9 (by decide) fl_X3_init_24 (by decide) rfl rfl rfl (tyX3_ok 9 (by decide)) (fun _ => rfl) (fun _ => rfl) dX3_init_41 ?_
  rw [show ([none, none, none, none, none, some (some 25), some (some 26), some (some 27), some (some 28), some none, some none] : List (Option (Option Nat))).set 9 (some (some 29)) = [none, none, none, none, none, some (some 25), some (some 26), some (some 27), some (some 28), some (some 29), some none] from rfl]
  refine wp_aload_n 0 dX3_init_44 rfl ?_
  refine wp_bipush (v := nI 8) dX3_init_45 (by decide) ?_
  refine wp_newI (N' := 8) (k' := 0) (n' := 0) (by decide +kernel) (by decide) (by decide) (by decide) (by decide) rfl rfl dX3_init_47 ?_
  refine wp_putF (fk := [none, none, none, none, none, some (some 25), some (some 26), some (some 27), some (some 28), some (some 29), some none]) (ty := tyX3 10) tyX3 tyX3_ok nmX3 rfl (by decide) rfl in_X3_init_X3 10 (by decide) fl_X3_init_27 (by decide) rfl rfl rfl (tyX3_ok 10 (by decide)) (fun _ => rfl) (fun _ => rfl) dX3_init_49 ?_
  rw [show ([none, none, none, none, none, some (some 25), some (some 26), some (some 27), some (some 28), some (some 29), some none] : List (Option (Option Nat))).set 10 (some (some 30)) = [none, none, none, none, none, some (some 25), some (some 26), some (some 27), some (some 28), some (some 29), some (some 30)] from rfl]
  exact wp_return rfl dX3_init_52 ⟨rfl, rfl, rfl, rfl⟩
def sct_X2_23 (σ : Nat → KD) : Nat → KD := (us (sct_X3_24 (us σ 24 (.inr (3, [none, none, none, none, none, some none, some none, some none, some none, some none, some none])))) 23 (.inr (2, [some (some 24)])))
def mct_X2_23 (M : Mem) : Mem := (mct_X3_24 (nw M 24))
set_option maxRecDepth 100000 in
set_option maxHeartbeats 4000000 in
theorem ct_X2_23 {E : EN} {σ : Nat → KD} {M : Mem} (hσ : σ 23 = .inr (2, [some none])) : MW E iX2_init 2 7 59 true [.ref 23] σ 24 M (fun v σ' N' M' => v = none ∧ σ' = sct_X2_23 σ ∧ N' = 31 ∧ M' = mct_X2_23 M) := by
  refine mw_intro (ls := [(0, .ref 23)]) rfl (by decide +kernel) rfl rfl (Nat.le_of_ble_eq_true rfl) ?_
  refine wp_aload_n 0 dX2_init_0 rfl ?_
  refine wp_objInit (by decide +kernel) (by decide +kernel) (by decide +kernel) (by decide) (Nat.le_of_ble_eq_true rfl) dX2_init_1 ?_
  refine wp_aload_n 0 dX2_init_4 rfl ?_
  refine wp_new (ci := 3) (T := TX3) (fk := [none, none, none, none, none, some none, some none, some none, some none, some none, some none]) (k' := 6) (n' := 48) tyX3 tyX3_ok rfl in_X2_init_X3 (by decide +kernel) (by decide +kernel) (by decide +kernel) (by decide) (by decide) (by decide) rfl rfl dX2_init_5 ?_
  refine wp_dup rfl dX2_init_8 ?_
  refine wp_callI (As := []) (st := [.ref 24, .ref 23]) (k' := 6) (n' := 48) (k'' := 0) (n'' := 0) (ct_X3_24 (E := E) rfl) gX2_init_X3_init rfl (by decide +kernel) (by decide +kernel) (by decide +kernel) rfl hy_X3_init rfl (by decide) (by decide) (Nat.le_of_ble_eq_true rfl) rfl rfl rfl dX2_init_9 ?_
  rintro _ _ _ _ ⟨rfl, rfl, rfl, rfl⟩
  refine wp_putF (fk := [some none]) (ty := tyX2 0) tyX2 tyX2_ok nmX2 hσ (by decide) rfl in_X2_init_X2 0 (by decide) fl_X2_init_12 (by decide) rfl rfl rfl (tyX2_ok 0 (by decide)) (fun _ => rfl) (fun _ => rfl) dX2_init_12 ?_
  rw [show ([some none] : List (Option (Option Nat))).set 0 (some (some 24)) = [some (some 24)] from rfl]
  exact wp_return rfl dX2_init_15 ⟨rfl, rfl, rfl, rfl⟩
def sct_X3_33 (σ : Nat → KD) : Nat → KD := (us (us (us (us (us (us (us (us (us (us (us (us σ 34 (.inl (0, 8, false))) 33 (.inr (3, [none, none, none, none, none, some (some 34), some none, some none, some none, some none, some none]))) 35 (.inl (0, 8, false))) 33 (.inr (3, [none, none, none, none, none, some (some 34), some (some 35), some none, some none, some none, some none]))) 36 (.inl (0, 8, false))) 33 (.inr (3, [none, none, none, none, none, some (some 34), some (some 35), some (some 36), some none, some none, some none]))) 37 (.inl (0, 8, false))) 33 (.inr (3, [none, none, none, none, none, some (some 34), some (some 35), some (some 36), some (some 37), some none, some none]))) 38 (.inl (0, 8, false))) 33 (.inr (3, [none, none, none, none, none, some (some 34), some (some 35), some (some 36), some (some 37), some (some 38), some none]))) 39 (.inl (0, 8, false))) 33 (.inr (3, [none, none, none, none, none, some (some 34), some (some 35), some (some 36), some (some 37), some (some 38), some (some 39)])))
def mct_X3_33 (M : Mem) : Mem := (nw (nw (nw (nw (nw (nw M 34) 35) 36) 37) 38) 39)
set_option maxRecDepth 100000 in
set_option maxHeartbeats 4000000 in
theorem ct_X3_33 {E : EN} {σ : Nat → KD} {M : Mem} (hσ : σ 33 = .inr (3, [none, none, none, none, none, some none, some none, some none, some none, some none, some none])) : MW E iX3_init 1 6 48 true [.ref 33] σ 34 M (fun v σ' N' M' => v = none ∧ σ' = sct_X3_33 σ ∧ N' = 40 ∧ M' = mct_X3_33 M) := by
  refine mw_intro (ls := [(0, .ref 33)]) rfl (by decide +kernel) rfl rfl (Nat.le_of_ble_eq_true rfl) ?_
  refine wp_aload_n 0 dX3_init_0 rfl ?_
  refine wp_objInit (by decide +kernel) (by decide +kernel) (by decide +kernel) (by decide) (Nat.le_of_ble_eq_true rfl) dX3_init_1 ?_
  refine wp_aload_n 0 dX3_init_4 rfl ?_
  refine wp_bipush (v := nI 8) dX3_init_5 (by decide) ?_
  refine wp_newI (N' := 8) (k' := 5) (n' := 40) (by decide +kernel) (by decide) (by decide) (by decide) (by decide) rfl rfl dX3_init_7 ?_
  refine wp_putF (fk := [none, none, none, none, none, some none, some none, some none, some none, some none, some none]) (ty := tyX3 5) tyX3 tyX3_ok nmX3 hσ (by decide) rfl in_X3_init_X3 5 (by decide) fl_X3_init_9 (by decide) rfl rfl rfl (tyX3_ok 5 (by decide)) (fun _ => rfl) (fun _ => rfl) dX3_init_9 ?_
  rw [show ([none, none, none, none, none, some none, some none, some none, some none, some none, some none] : List (Option (Option Nat))).set 5 (some (some 34)) = [none, none, none, none, none, some (some 34), some none, some none, some none, some none, some none] from rfl]
  refine wp_aload_n 0 dX3_init_12 rfl ?_
  refine wp_bipush (v := nI 8) dX3_init_13 (by decide) ?_
  refine wp_newI (N' := 8) (k' := 4) (n' := 32) (by decide +kernel) (by decide) (by decide) (by decide) (by decide) rfl rfl dX3_init_15 ?_
  refine wp_putF (fk := [none, none, none, none, none, some (some 34), some none, some none, some none, some none, some none]) (ty := tyX3 6) tyX3 tyX3_ok nmX3 rfl (by decide) rfl in_X3_init_X3 6 (by decide) fl_X3_init_15 (by decide) rfl rfl rfl (tyX3_ok 6 (by decide)) (fun _ => rfl) (fun _ => rfl) dX3_init_17 ?_
  rw [show ([none, none, none, none, none, some (some 34), some none, some none, some none, some none, some none] : List (Option (Option Nat))).set 6 (some (some 35)) = [none, none, none, none, none, some (some 34), some (some 35), some none, some none, some none, some none] from rfl]
  refine wp_aload_n 0 dX3_init_20 rfl ?_
  refine wp_bipush (v := nI 8) dX3_init_21 (by decide) ?_
  refine wp_newI (N' := 8) (k' := 3) (n' := 24) (by decide +kernel) (by decide) (by decide) (by decide) (by decide) rfl rfl dX3_init_23 ?_
  refine wp_putF (fk := [none, none, none, none, none, some (some 34), some (some 35), some none, some none, some none, some none]) (ty := tyX3 7) tyX3 tyX3_ok nmX3 rfl (by decide) rfl in_X3_init_X3 7 (by decide) fl_X3_init_18 (by decide) rfl rfl rfl (tyX3_ok 7 (by decide)) (fun _ => rfl) (fun _ => rfl) dX3_init_25 ?_
  rw [show ([none, none, none, none, none, some (some 34), some (some 35), some none, some none, some none, some none] : List (Option (Option Nat))).set 7 (some (some 36)) = [none, none, none, none, none, some (some 34), some (some 35), some (some 36), some none, some none, some none] from rfl]
  refine wp_aload_n 0 dX3_init_28 rfl ?_
  refine wp_bipush (v := nI 8) dX3_init_29 (by decide) ?_
  refine wp_newI (N' := 8) (k' := 2) (n' := 16) (by decide +kernel) (by decide) (by decide) (by decide) (by decide) rfl rfl dX3_init_31 ?_
  refine wp_putF (fk := [none, none, none, none, none, some (some 34), some (some 35), some (some 36), some none, some none, some none]) (ty := tyX3 8) tyX3 tyX3_ok nmX3 rfl (by decide) rfl in_X3_init_X3 8 (by decide) fl_X3_init_21 (by decide) rfl rfl rfl (tyX3_ok 8 (by decide)) (fun _ => rfl) (fun _ => rfl) dX3_init_33 ?_
  rw [show ([none, none, none, none, none, some (some 34), some (some 35), some (some 36), some none, some none, some none] : List (Option (Option Nat))).set 8 (some (some 37)) = [none, none, none, none, none, some (some 34), some (some 35), some (some 36), some (some 37), some none, some none] from rfl]
  refine wp_aload_n 0 dX3_init_36 rfl ?_
  refine wp_bipush (v := nI 8) dX3_init_37 (by decide) ?_
  refine wp_newI (N' := 8) (k' := 1) (n' := 8) (by decide +kernel) (by decide) (by decide) (by decide) (by decide) rfl rfl dX3_init_39 ?_
  refine wp_putF (fk := [none, none, none, none, none, some (some 34), some (some 35), some (some 36), some (some 37), some none, some none]) (ty := tyX3 9) tyX3 tyX3_ok nmX3 rfl (by decide) rfl in_X3_init_X3 9 (by decide) fl_X3_init_24 (by decide) rfl rfl rfl (tyX3_ok 9 (by decide)) (fun _ => rfl) (fun _ => rfl) dX3_init_41 ?_
  rw [show ([none, none, none, none, none, some (some 34), some (some 35), some (some 36), some (some 37), some none, some none] : List (Option (Option Nat))).set 9 (some (some 38)) = [none, none, none, none, none, some (some 34), some (some 35), some (some 36), some (some 37), some (some 38), some none] from rfl]
  refine wp_aload_n 0 dX3_init_44 rfl ?_
  refine wp_bipush (v := nI 8) dX3_init_45 (by decide) ?_
  refine wp_newI (N' := 8) (k' := 0) (n' := 0) (by decide +kernel) (by decide) (by decide) (by decide) (by decide) rfl rfl dX3_init_47 ?_
  refine wp_putF (fk := [none, none, none, none, none, some (some 34), some (some 35), some (some 36), some (some 37), some (some 38), some none]) (ty := tyX3 10) tyX3 tyX3_ok nmX3 rfl (by decide) rfl in_X3_init_X3 10 (by decide) fl_X3_init_27 (by decide) rfl rfl rfl (tyX3_ok 10 (by decide)) (fun _ => rfl) (fun _ => rfl) dX3_init_49 ?_
  rw [show ([none, none, none, none, none, some (some 34), some (some 35), some (some 36), some (some 37), some (some 38), some none] : List (Option (Option Nat))).set 10 (some (some 39)) = [none, none, none, none, none, some (some 34), some (some 35), some (some 36), some (some 37), some (some 38), some (some 39)] from rfl]
  exact wp_return rfl dX3_init_52 ⟨rfl, rfl, rfl, rfl⟩
def sct_X2_32 (σ : Nat → KD) : Nat → KD := (us (sct_X3_33 (us σ 33 (.inr (3, [none, none, none, none, none, some none, some none, some none, some none, some none, some none])))) 32 (.inr (2, [some (some 33)])))
def mct_X2_32 (M : Mem) : Mem := (mct_X3_33 (nw M 33))
set_option maxRecDepth 100000 in
set_option maxHeartbeats 4000000 in
theorem ct_X2_32 {E : EN} {σ : Nat → KD} {M : Mem} (hσ : σ 32 = .inr (2, [some none])) : MW E iX2_init 2 7 59 true [.ref 32] σ 33 M (fun v σ' N' M' => v = none ∧ σ' = sct_X2_32 σ ∧ N' = 40 ∧ M' = mct_X2_32 M) := by
  refine mw_intro (ls := [(0, .ref 32)]) rfl (by decide +kernel) rfl rfl (Nat.le_of_ble_eq_true rfl) ?_
  refine wp_aload_n 0 dX2_init_0 rfl ?_
  refine wp_objInit (by decide +kernel) (by decide +kernel) (by decide +kernel) (by decide) (Nat.le_of_ble_eq_true rfl) dX2_init_1 ?_
  refine wp_aload_n 0 dX2_init_4 rfl ?_
  refine wp_new (ci := 3) (T := TX3) (fk := [none, none, none, none, none, some none, some none, some none, some none, some none, some none]) (k' := 6) (n' := 48) tyX3 tyX3_ok rfl in_X2_init_X3 (by decide +kernel) (by decide +kernel) (by decide +kernel) (by decide) (by decide) (by decide) rfl rfl dX2_init_5 ?_
  refine wp_dup rfl dX2_init_8 ?_
  refine wp_callI (As := []) (st := [.ref 33, .ref 32]) (k' := 6) (n' := 48) (k'' := 0) (n'' := 0) (ct_X3_33 (E := E) rfl) gX2_init_X3_init rfl (by decide +kernel) (by decide +kernel) (by decide +kernel) rfl hy_X3_init rfl (by decide) (by decide) (Nat.le_of_ble_eq_true rfl) rfl rfl rfl dX2_init_9 ?_
  rintro _ _ _ _ ⟨rfl, rfl, rfl, rfl⟩
  refine wp_putF (fk := [some none]) (ty := tyX2 0) tyX2 tyX2_ok nmX2 hσ (by decide) rfl in_X2_init_X2 0 (by decide) fl_X2_init_12 (by decide) rfl rfl rfl (tyX2_ok 0 (by decide)) (fun _ => rfl) (fun _ => rfl) dX2_init_12 ?_
  rw [show ([some none] : List (Option (Option Nat))).set 0 (some (some 33)) = [some (some 33)] from rfl]
  exact wp_return rfl dX2_init_15 ⟨rfl, rfl, rfl, rfl⟩
def sct_X4_40 (σ : Nat → KD) : Nat → KD := (us (us (us (us σ 41 (.inl (0, 8, false))) 40 (.inr (4, [none, none, none, none, none, some (some 41), some none]))) 42 (.inl (0, 4, false))) 40 (.inr (4, [none, none, none, none, none, some (some 41), some (some 42)])))
def mct_X4_40 (M : Mem) : Mem := (cp4 (nw (pu (pu (pu (pu (pu (pu (pu (pu (nw (pu (pu (pu (pu (pu M 40 0 (nI 1)) 40 1 (nI 1)) 40 2 (nI 0)) 40 3 (nI 0)) 40 4 (nI 0)) 41) 41 0 (nI 5)) 41 1 (nI 5)) 41 2 (nI 0)) 41 3 (nI 0)) 41 4 (nI 0)) 41 5 (nI 0)) 41 6 (nI 0)) 41 7 (nI 0)) 42) 42)
set_option maxRecDepth 100000 in
set_option maxHeartbeats 4000000 in
theorem ct_X4_40 {E : EN} {σ : Nat → KD} {M : Mem} (hσ : σ 40 = .inr (4, [none, none, none, none, none, some none, some none])) : MW E iX4_init 1 2 12 true [.ref 40] σ 41 M (fun v σ' N' M' => v = none ∧ σ' = sct_X4_40 σ ∧ N' = 43 ∧ M' = mct_X4_40 M) := by
  refine mw_intro (ls := [(0, .ref 40)]) rfl (by decide +kernel) rfl rfl (Nat.le_of_ble_eq_true rfl) ?_
  refine wp_aload_n 0 dX4_init_0 rfl ?_
  refine wp_objInit (by decide +kernel) (by decide +kernel) (by decide +kernel) (by decide) (Nat.le_of_ble_eq_true rfl) dX4_init_1 ?_
  refine wp_aload_n 0 dX4_init_4 rfl ?_
  refine wp_iconst (v := nI 1) dX4_init_5 (by decide) ?_
  refine wp_put (ty := .int) tyX4 tyX4_ok nmX4 hσ (by decide) rfl in_X4_init_X4 0 (by decide) fl_X4_init_9 rfl rfl (by decide +kernel) rfl rfl dX4_init_6 (fun Mx ex => ?_)
  obtain rfl : Mx = pu _ 40 0 (nI 1) := ex
  refine wp_aload_n 0 dX4_init_9 rfl ?_
  refine wp_iconst (v := nI 1) dX4_init_10 (by decide) ?_
  refine wp_put (ty := .int) tyX4 tyX4_ok nmX4 hσ (by decide) rfl in_X4_init_X4 1 (by decide) fl_X4_init_15 rfl rfl (by decide +kernel) rfl rfl dX4_init_11 (fun Mx ex => ?_)
  obtain rfl : Mx = pu _ 40 1 (nI 1) := ex
  refine wp_aload_n 0 dX4_init_14 rfl ?_
  refine wp_iconst (v := nI 0) dX4_init_15 (by decide) ?_
  refine wp_put (ty := .int) tyX4 tyX4_ok nmX4 hσ (by decide) rfl in_X4_init_X4 2 (by decide) fl_X4_init_18 rfl rfl (by decide +kernel) rfl rfl dX4_init_16 (fun Mx ex => ?_)
  obtain rfl : Mx = pu _ 40 2 (nI 0) := ex
  refine wp_aload_n 0 dX4_init_19 rfl ?_
  refine wp_iconst (v := nI 0) dX4_init_20 (by decide) ?_
  refine wp_put (ty := .boolean) tyX4 tyX4_ok nmX4 hσ (by decide) rfl in_X4_init_X4 3 (by decide) fl_X4_init_21 rfl rfl (by decide +kernel) rfl rfl dX4_init_21 (fun Mx ex => ?_)
  obtain rfl : Mx = pu _ 40 3 (nI 0) := ex
  refine wp_aload_n 0 dX4_init_24 rfl ?_
  refine wp_iconst (v := nI 0) dX4_init_25 (by decide) ?_
  refine wp_put (ty := .int) tyX4 tyX4_ok nmX4 hσ (by decide) rfl in_X4_init_X4 4 (by decide) fl_X4_init_25 rfl rfl (by decide +kernel) rfl rfl dX4_init_26 (fun Mx ex => ?_)
  obtain rfl : Mx = pu _ 40 4 (nI 0) := ex
  refine wp_aload_n 0 dX4_init_29 rfl ?_
  refine wp_bipush (v := nI 8) dX4_init_30 (by decide) ?_
  refine wp_newI (N' := 8) (k' := 1) (n' := 4) (by decide +kernel) (by decide) (by decide) (by decide) (by decide) rfl rfl dX4_init_32 ?_
  refine wp_dup rfl dX4_init_34 ?_
  refine wp_iconst (v := nI 0) dX4_init_35 (by decide) ?_
  refine wp_iconst (v := nI 5) dX4_init_36 (by decide) ?_
  refine wp_iast rfl (by decide) (vil rfl) dX4_init_37 (fun Mx ex => ?_)
  obtain rfl : Mx = pu _ 41 0 (nI 5) := ex
  refine wp_dup rfl dX4_init_38 ?_
  refine wp_iconst (v := nI 1) dX4_init_39 (by decide) ?_
  refine wp_iconst (v := nI 5) dX4_init_40 (by decide) ?_
  refine wp_iast rfl (by decide) (vil rfl) dX4_init_41 (fun Mx ex => ?_)
  obtain rfl : Mx = pu _ 41 1 (nI 5) := ex
  refine wp_dup rfl dX4_init_42 ?_
  refine wp_iconst (v := nI 2) dX4_init_43 (by decide) ?_
  refine wp_iconst (v := nI 0) dX4_init_44 (by decide) ?_
  refine wp_iast rfl (by decide) (vil rfl) dX4_init_45 (fun Mx ex => ?_)
  obtain rfl : Mx = pu _ 41 2 (nI 0) := ex
  refine wp_dup rfl dX4_init_46 ?_
  refine wp_iconst (v := nI 3) dX4_init_47 (by decide) ?_
  refine wp_iconst (v := nI 0) dX4_init_48 (by decide) ?_
  refine wp_iast rfl (by decide) (vil rfl) dX4_init_49 (fun Mx ex => ?_)
  obtain rfl : Mx = pu _ 41 3 (nI 0) := ex
  refine wp_dup rfl dX4_init_50 ?_
  refine wp_iconst (v := nI 4) dX4_init_51 (by decide) ?_
  refine wp_iconst (v := nI 0) dX4_init_52 (by decide) ?_
  refine wp_iast rfl (by decide) (vil rfl) dX4_init_53 (fun Mx ex => ?_)
  obtain rfl : Mx = pu _ 41 4 (nI 0) := ex
  refine wp_dup rfl dX4_init_54 ?_
  refine wp_iconst (v := nI 5) dX4_init_55 (by decide) ?_
  refine wp_iconst (v := nI 0) dX4_init_56 (by decide) ?_
  refine wp_iast rfl (by decide) (vil rfl) dX4_init_57 (fun Mx ex => ?_)
  obtain rfl : Mx = pu _ 41 5 (nI 0) := ex
  refine wp_dup rfl dX4_init_58 ?_
  refine wp_bipush (v := nI 6) dX4_init_59 (by decide) ?_
  refine wp_iconst (v := nI 0) dX4_init_61 (by decide) ?_
  refine wp_iast rfl (by decide) (vil rfl) dX4_init_62 (fun Mx ex => ?_)
  obtain rfl : Mx = pu _ 41 6 (nI 0) := ex
  refine wp_dup rfl dX4_init_63 ?_
  refine wp_bipush (v := nI 7) dX4_init_64 (by decide) ?_
  refine wp_iconst (v := nI 0) dX4_init_66 (by decide) ?_
  refine wp_iast rfl (by decide) (vil rfl) dX4_init_67 (fun Mx ex => ?_)
  obtain rfl : Mx = pu _ 41 7 (nI 0) := ex
  refine wp_putF (fk := [none, none, none, none, none, some none, some none]) (ty := tyX4 5) tyX4 tyX4_ok nmX4 hσ (by decide) rfl in_X4_init_X4 5 (by decide) fl_X4_init_28 (by decide) rfl rfl rfl (tyX4_ok 5 (by decide)) (fun _ => rfl) (fun _ => rfl) dX4_init_68 ?_
  rw [show ([none, none, none, none, none, some none, some none] : List (Option (Option Nat))).set 5 (some (some 41)) = [none, none, none, none, none, some (some 41), some none] from rfl]
  refine wp_aload_n 0 dX4_init_71 rfl ?_
  refine wp_getsN rfl dX4_init_72 ?_
  refine wp_tlen 0 (by decide) dX4_init_75 ?_
  refine wp_newI (N' := 4) (k' := 0) (n' := 0) (by decide +kernel) (by decide) (by decide) (by decide) (by decide) rfl rfl dX4_init_76 ?_
  refine wp_putF (fk := [none, none, none, none, none, some (some 41), some none]) (ty := tyX4 6) tyX4 tyX4_ok nmX4 rfl (by decide) rfl in_X4_init_X4 6 (by decide) fl_X4_init_35 (by decide) rfl rfl rfl (tyX4_ok 6 (by decide)) (fun _ => rfl) (fun _ => rfl) dX4_init_78 ?_
  rw [show ([none, none, none, none, none, some (some 41), some none] : List (Option (Option Nat))).set 6 (some (some 42)) = [none, none, none, none, none, some (some 41), some (some 42)] from rfl]
  refine wp_getsN rfl dX4_init_81 ?_
  refine wp_iconst (v := nI 0) dX4_init_84 (by decide) ?_
  refine wp_aload_n 0 dX4_init_85 rfl ?_
  refine wp_get (v := .ref 42) dX4_init_86 rfl (by decide) rfl in_X4_init_X4 6 (by decide) fl_X4_init_35 rfl rfl ?_
  refine wp_iconst (v := nI 0) dX4_init_89 (by decide) ?_
  refine wp_aload_n 0 dX4_init_90 rfl ?_
  refine wp_get (v := .ref 42) dX4_init_91 rfl (by decide) rfl in_X4_init_X4 6 (by decide) fl_X4_init_35 rfl rfl ?_
  refine wp_alen (v := nI 4) rfl (by decide) (by decide) (by decide) dX4_init_94 ?_
  refine wp_copyT (by decide +kernel) (by decide +kernel) (by decide +kernel) (by decide +kernel) rfl (by decide) (by decide) (by decide) (by decide) (by decide) (by decide) (by decide) (Nat.le_of_ble_eq_true rfl) dX4_init_95 (fun Mx ex => ?_)
  obtain rfl : Mx = cp4 _ 42 := ex
  exact wp_return rfl dX4_init_98 ⟨rfl, rfl, rfl, rfl⟩
def sct_X1_31 (σ : Nat → KD) : Nat → KD := (us (us (us (us (us (us (us (sct_X4_40 (us (us (sct_X2_32 (us σ 32 (.inr (2, [some none])))) 31 (.inr (1, [some (some 32), some none, none, some none, some none, some none]))) 40 (.inr (4, [none, none, none, none, none, some none, some none])))) 31 (.inr (1, [some (some 32), some (some 40), none, some none, some none, some none]))) 43 (.inl (0, 128, false))) 31 (.inr (1, [some (some 32), some (some 40), none, some (some 43), some none, some none]))) 44 (.inl (0, 128, false))) 31 (.inr (1, [some (some 32), some (some 40), none, some (some 43), some (some 44), some none]))) 45 (.inl (2, 128, false))) 31 (.inr (1, [some (some 32), some (some 40), none, some (some 43), some (some 44), some (some 45)])))
def mct_X1_31 (M : Mem) : Mem := (nw (nw (nw (pu (mct_X4_40 (nw (mct_X2_32 (nw M 32)) 40)) 31 2 (nI 0)) 43) 44) 45)
set_option maxRecDepth 100000 in
set_option maxHeartbeats 4000000 in
theorem ct_X1_31 {E : EN} {σ : Nat → KD} {M : Mem} (hσ : σ 31 = .inr (1, [some none, some none, none, some none, some none, some none])) : MW E iX1_init 3 14 463 true [.ref 31] σ 32 M (fun v σ' N' M' => v = none ∧ σ' = sct_X1_31 σ ∧ N' = 46 ∧ M' = mct_X1_31 M) := by
  refine mw_intro (ls := [(0, .ref 31)]) rfl (by decide +kernel) rfl rfl (Nat.le_of_ble_eq_true rfl) ?_
  refine wp_aload_n 0 dX1_init_0 rfl ?_
  refine wp_objInit (by decide +kernel) (by decide +kernel) (by decide +kernel) (by decide) (Nat.le_of_ble_eq_true rfl) dX1_init_1 ?_
  refine wp_aload_n 0 dX1_init_4 rfl ?_
  refine wp_new (ci := 2) (T := TX2) (fk := [some none]) (k' := 13) (n' := 462) tyX2 tyX2_ok rfl in_X1_init_X2 (by decide +kernel) (by decide +kernel) (by decide +kernel) (by decide) (by decide) (by decide) rfl rfl dX1_init_5 ?_
  refine wp_dup rfl dX1_init_8 ?_
  refine wp_callI (As := []) (st := [.ref 32, .ref 31]) (k' := 7) (n' := 59) (k'' := 6) (n'' := 403) (ct_X2_32 (E := E) rfl) gX1_init_X2_init rfl (by decide +kernel) (by decide +kernel) (by decide +kernel) rfl hy_X2_init rfl (by decide) (by decide) (Nat.le_of_ble_eq_true rfl) rfl rfl rfl dX1_init_9 ?_
  rintro _ _ _ _ ⟨rfl, rfl, rfl, rfl⟩
  refine wp_putF (fk := [some none, some none, none, some none, some none, some none]) (ty := tyX1 0) tyX1 tyX1_ok nmX1 hσ (by decide) rfl in_X1_init_X1 0 (by decide) fl_X1_init_12 (by decide) rfl rfl rfl (tyX1_ok 0 (by decide)) (fun _ => rfl) (fun _ => rfl) dX1_init_12 ?_
  rw [show ([some none, some none, none, some none, some none, some none] : List (Option (Option Nat))).set 0 (some (some 32)) = [some (some 32), some none, none, some none, some none, some none] from rfl]
  refine wp_aload_n 0 dX1_init_15 rfl ?_
  refine wp_new (ci := 4) (T := TX4) (fk := [none, none, none, none, none, some none, some none]) (k' := 5) (n' := 396) tyX4 tyX4_ok rfl in_X1_init_X4 (by decide +kernel) (by decide +kernel) (by decide +kernel) (by decide) (by decide) (by decide) rfl rfl dX1_init_16 ?_
  refine wp_dup rfl dX1_init_19 ?_
  refine wp_callI (As := []) (st := [.ref 40, .ref 31]) (k' := 2) (n' := 12) (k'' := 3) (n'' := 384) (ct_X4_40 (E := E) rfl) gX1_init_X4_init rfl (by decide +kernel) (by decide +kernel) (by decide +kernel) rfl hy_X4_init rfl (by decide) (by decide) (Nat.le_of_ble_eq_true rfl) rfl rfl rfl dX1_init_20 ?_
  rintro _ _ _ _ ⟨rfl, rfl, rfl, rfl⟩
  refine wp_putF (fk := [some (some 32), some none, none, some none, some none, some none]) (ty := tyX1 1) tyX1 tyX1_ok nmX1 rfl (by decide) rfl in_X1_init_X1 1 (by decide) fl_X1_init_21 (by decide) rfl rfl rfl (tyX1_ok 1 (by decide)) (fun _ => rfl) (fun _ => rfl) dX1_init_23 ?_
  rw [show ([some (some 32), some none, none, some none, some none, some none] : List (Option (Option Nat))).set 1 (some (some 40)) = [some (some 32), some (some 40), none, some none, some none, some none] from rfl]
  refine wp_aload_n 0 dX1_init_26 rfl ?_
  refine wp_iconst (v := nI 0) dX1_init_27 (by decide) ?_
  refine wp_put (ty := .boolean) tyX1 tyX1_ok nmX1 rfl (by decide) rfl in_X1_init_X1 2 (by decide) fl_X1_init_25 rfl rfl (by decide +kernel) rfl rfl dX1_init_28 (fun Mx ex => ?_)
  obtain rfl : Mx = pu _ 31 2 (nI 0) := ex
  refine wp_aload_n 0 dX1_init_31 rfl ?_
  refine wp_sipush (v := nI 128) dX1_init_32 (by decide) ?_
  refine wp_newI (N' := 128) (k' := 2) (n' := 256) (by decide +kernel) (by decide) (by decide) (by decide) (by decide) rfl rfl dX1_init_35 ?_
  refine wp_putF (fk := [some (some 32), some (some 40), none, some none, some none, some none]) (ty := tyX1 3) tyX1 tyX1_ok nmX1 rfl (by decide) rfl in_X1_init_X1 3 (by decide) fl_X1_init_29 (by decide) rfl rfl rfl (tyX1_ok 3 (by decide)) (fun _ => rfl) (fun _ => rfl) dX1_init_37 ?_
  rw [show ([some (some 32), some (some 40), none, some none, some none, some none] : List (Option (Option Nat))).set 3 (some (some 43)) = [some (some 32), some (some 40), none, some (some 43), some none, some none] from rfl]
  refine wp_aload_n 0 dX1_init_40 rfl ?_
  refine wp_sipush (v := nI 128) dX1_init_41 (by decide) ?_
  refine wp_newI (N' := 128) (k' := 1) (n' := 128) (by decide +kernel) (by decide) (by decide) (by decide) (by decide) rfl rfl dX1_init_44 ?_
  refine wp_putF (fk := [some (some 32), some (some 40), none, some (some 43), some none, some none]) (ty := tyX1 4) tyX1 tyX1_ok nmX1 rfl (by decide) rfl in_X1_init_X1 4 (by decide) fl_X1_init_33 (by decide) rfl rfl rfl (tyX1_ok 4 (by decide)) (fun _ => rfl) (fun _ => rfl) dX1_init_46 ?_
  rw [show ([some (some 32), some (some 40), none, some (some 43), some none, some none] : List (Option (Option Nat))).set 4 (some (some 44)) = [some (some 32), some (some 40), none, some (some 43), some (some 44), some none] from rfl]
  refine wp_aload_n 0 dX1_init_49 rfl ?_
  refine wp_sipush (v := nI 128) dX1_init_50 (by decide) ?_
  refine wp_newZ (N' := 128) (k' := 0) (n' := 0) (by decide +kernel) (by decide) (by decide) (by decide) (by decide) rfl rfl dX1_init_53 ?_
  refine wp_putF (fk := [some (some 32), some (some 40), none, some (some 43), some (some 44), some none]) (ty := tyX1 5) tyX1 tyX1_ok nmX1 rfl (by decide) rfl in_X1_init_X1 5 (by decide) fl_X1_init_36 (by decide) rfl rfl rfl (tyX1_ok 5 (by decide)) (fun _ => rfl) (fun _ => rfl) dX1_init_55 ?_
  rw [show ([some (some 32), some (some 40), none, some (some 43), some (some 44), some none] : List (Option (Option Nat))).set 5 (some (some 45)) = [some (some 32), some (some 40), none, some (some 43), some (some 44), some (some 45)] from rfl]
  exact wp_return rfl dX1_init_58 ⟨rfl, rfl, rfl, rfl⟩
def sct_X6_0 (σ : Nat → KD) : Nat → KD := (us (sct_X1_31 (us (us (sct_X2_23 (us (us (sct_X5_21 (us (us (sct_X0_7 (us (us (sct_X4_4 (us (us (sct_X4_1 (us σ 1 (.inr (4, [none, none, none, none, none, some none, some none])))) 0 (.inr (6, [some (some 1), some none, none, some none, some none, some none, some none]))) 4 (.inr (4, [none, none, none, none, none, some none, some none])))) 0 (.inr (6, [some (some 1), some (some 4), none, some none, some none, some none, some none]))) 7 (.inr (0, [none, some none])))) 0 (.inr (6, [some (some 1), some (some 4), none, some (some 7), some none, some none, some none]))) 21 (.inr (5, [none, some none])))) 0 (.inr (6, [some (some 1), some (some 4), none, some (some 7), some (some 21), some none, some none]))) 23 (.inr (2, [some none])))) 0 (.inr (6, [some (some 1), some (some 4), none, some (some 7), some (some 21), some (some 23), some none]))) 31 (.inr (1, [some none, some none, none, some none, some none, some none])))) 0 (.inr (6, [some (some 1), some (some 4), none, some (some 7), some (some 21), some (some 23), some (some 31)])))
def mct_X6_0 (M : Mem) : Mem := (mct_X1_31 (nw (mct_X2_23 (nw (mct_X5_21 (nw (mct_X0_7 (nw (pu (mct_X4_4 (nw (mct_X4_1 (nw M 1)) 4)) 0 2 (nI 0)) 7)) 21)) 23)) 31))
set_option maxRecDepth 100000 in
set_option maxHeartbeats 4000000 in
theorem ct_X6_0 {E : EN} {σ : Nat → KD} {M : Mem} (hσ : σ 0 = .inr (6, [some none, some none, none, some none, some none, some none, some none])) : MW E iX6_init 4 45 711 true [.ref 0] σ 1 M (fun v σ' N' M' => v = none ∧ σ' = sct_X6_0 σ ∧ N' = 46 ∧ M' = mct_X6_0 M) := by
  refine mw_intro (ls := [(0, .ref 0)]) rfl (by decide +kernel) rfl rfl (Nat.le_of_ble_eq_true rfl) ?_
  refine wp_aload_n 0 dX6_init_0 rfl ?_
  refine wp_objInit (by decide +kernel) (by decide +kernel) (by decide +kernel) (by decide) (Nat.le_of_ble_eq_true rfl) dX6_init_1 ?_
  refine wp_aload_n 0 dX6_init_4 rfl ?_
  refine wp_new (ci := 4) (T := TX4) (fk := [none, none, none, none, none, some none, some none]) (k' := 44) (n' := 704) tyX4 tyX4_ok rfl in_X6_init_X4 (by decide +kernel) (by decide +kernel) (by decide +kernel) (by decide) (by decide) (by decide) rfl rfl dX6_init_5 ?_
  refine wp_dup rfl dX6_init_8 ?_
  refine wp_callI (As := []) (st := [.ref 1, .ref 0]) (k' := 2) (n' := 12) (k'' := 42) (n'' := 692) (ct_X4_1 (E := E) rfl) gX6_init_X4_init rfl (by decide +kernel) (by decide +kernel) (by decide +kernel) rfl hy_X4_init rfl (by decide) (by decide) (Nat.le_of_ble_eq_true rfl) rfl rfl rfl dX6_init_9 ?_
  rintro _ _ _ _ ⟨rfl, rfl, rfl, rfl⟩
  refine wp_putF (fk := [some none, some none, none, some none, some none, some none, some none]) (ty := tyX6 0) tyX6 tyX6_ok nmX6 hσ (by decide) rfl in_X6_init_X6 0 (by decide) fl_X6_init_10 (by decide) rfl rfl rfl (tyX6_ok 0 (by decide)) (fun _ => rfl) (fun _ => rfl) dX6_init_12 ?_
  rw [show ([some none, some none, none, some none, some none, some none, some none] : List (Option (Option Nat))).set 0 (some (some 1)) = [some (some 1), some none, none, some none, some none, some none, some none] from rfl]
  refine wp_aload_n 0 dX6_init_15 rfl ?_
  refine wp_new (ci := 4) (T := TX4) (fk := [none, none, none, none, none, some none, some none]) (k' := 41) (n' := 685) tyX4 tyX4_ok rfl in_X6_init_X4 (by decide +kernel) (by decide +kernel) (by decide +kernel) (by decide) (by decide) (by decide) rfl rfl dX6_init_16 ?_
  refine wp_dup rfl dX6_init_19 ?_
  refine wp_callI (As := []) (st := [.ref 4, .ref 0]) (k' := 2) (n' := 12) (k'' := 39) (n'' := 673) (ct_X4_4 (E := E) rfl) gX6_init_X4_init rfl (by decide +kernel) (by decide +kernel) (by decide +kernel) rfl hy_X4_init rfl (by decide) (by decide) (Nat.le_of_ble_eq_true rfl) rfl rfl rfl dX6_init_20 ?_
  rintro _ _ _ _ ⟨rfl, rfl, rfl, rfl⟩
  refine wp_putF (fk := [some (some 1), some none, none, some none, some none, some none, some none]) (ty := tyX6 1) tyX6 tyX6_ok nmX6 rfl (by decide) rfl in_X6_init_X6 1 (by decide) fl_X6_init_16 (by decide) rfl rfl rfl (tyX6_ok 1 (by decide)) (fun _ => rfl) (fun _ => rfl) dX6_init_23 ?_
  rw [show ([some (some 1), some none, none, some none, some none, some none, some none] : List (Option (Option Nat))).set 1 (some (some 4)) = [some (some 1), some (some 4), none, some none, some none, some none, some none] from rfl]
  refine wp_aload_n 0 dX6_init_26 rfl ?_
  refine wp_iconst (v := nI 0) dX6_init_27 (by decide) ?_
  refine wp_put (ty := .boolean) tyX6 tyX6_ok nmX6 rfl (by decide) rfl in_X6_init_X6 2 (by decide) fl_X6_init_19 rfl rfl (by decide +kernel) rfl rfl dX6_init_28 (fun Mx ex => ?_)
  obtain rfl : Mx = pu _ 0 2 (nI 0) := ex
  refine wp_aload_n 0 dX6_init_31 rfl ?_
  refine wp_new (ci := 0) (T := TX0) (fk := [none, some none]) (k' := 38) (n' := 671) tyX0 tyX0_ok rfl in_X6_init_X0 (by decide +kernel) (by decide +kernel) (by decide +kernel) (by decide) (by decide) (by decide) rfl rfl dX6_init_32 ?_
  refine wp_dup rfl dX6_init_35 ?_
  refine wp_callI (As := []) (st := [.ref 7, .ref 0]) (k' := 13) (n' := 80) (k'' := 25) (n'' := 591) (ct_X0_7 (E := E) rfl) gX6_init_X0_init rfl (by decide +kernel) (by decide +kernel) (by decide +kernel) rfl hy_X0_init rfl (by decide) (by decide) (Nat.le_of_ble_eq_true rfl) rfl rfl rfl dX6_init_36 ?_
  rintro _ _ _ _ ⟨rfl, rfl, rfl, rfl⟩
  refine wp_putF (fk := [some (some 1), some (some 4), none, some none, some none, some none, some none]) (ty := tyX6 3) tyX6 tyX6_ok nmX6 rfl (by decide) rfl in_X6_init_X6 3 (by decide) fl_X6_init_26 (by decide) rfl rfl rfl (tyX6_ok 3 (by decide)) (fun _ => rfl) (fun _ => rfl) dX6_init_39 ?_
  rw [show ([some (some 1), some (some 4), none, some none, some none, some none, some none] : List (Option (Option Nat))).set 3 (some (some 7)) = [some (some 1), some (some 4), none, some (some 7), some none, some none, some none] from rfl]
  refine wp_aload_n 0 dX6_init_42 rfl ?_
  refine wp_new (ci := 5) (T := TX5) (fk := [none, some none]) (k' := 24) (n' := 589) tyX5 tyX5_ok rfl in_X6_init_X5 (by decide +kernel) (by decide +kernel) (by decide +kernel) (by decide) (by decide) (by decide) rfl rfl dX6_init_43 ?_
  refine wp_dup rfl dX6_init_46 ?_
  refine wp_callI (As := []) (st := [.ref 21, .ref 0]) (k' := 1) (n' := 60) (k'' := 23) (n'' := 529) (ct_X5_21 (E := E) rfl) gX6_init_X5_init rfl (by decide +kernel) (by decide +kernel) (by decide +kernel) rfl hy_X5_init rfl (by decide) (by decide) (Nat.le_of_ble_eq_true rfl) rfl rfl rfl dX6_init_47 ?_
  rintro _ _ _ _ ⟨rfl, rfl, rfl, rfl⟩
  refine wp_putF (fk := [some (some 1), some (some 4), none, some (some 7), some none, some none, some none]) (ty := tyX6 4) tyX6 tyX6_ok nmX6 rfl (by decide) rfl in_X6_init_X6 4 (by decide) fl_X6_init_33 (by decide) rfl rfl rfl (tyX6_ok 4 (by decide)) (fun _ => rfl) (fun _ => rfl) dX6_init_50 ?_
  rw [show ([some (some 1), some (some 4), none, some (some 7), some none, some none, some none] : List (Option (Option Nat))).set 4 (some (some 21)) = [some (some 1), some (some 4), none, some (some 7), some (some 21), some none, some none] from rfl]
  refine wp_aload_n 0 dX6_init_53 rfl ?_
  refine wp_new (ci := 2) (T := TX2) (fk := [some none]) (k' := 22) (n' := 528) tyX2 tyX2_ok rfl in_X6_init_X2 (by decide +kernel) (by decide +kernel) (by decide +kernel) (by decide) (by decide) (by decide) rfl rfl dX6_init_54 ?_
  refine wp_dup rfl dX6_init_57 ?_
  refine wp_callI (As := []) (st := [.ref 23, .ref 0]) (k' := 7) (n' := 59) (k'' := 15) (n'' := 469) (ct_X2_23 (E := E) rfl) gX6_init_X2_init rfl (by decide +kernel) (by decide +kernel) (by decide +kernel) rfl hy_X2_init rfl (by decide) (by decide) (Nat.le_of_ble_eq_true rfl) rfl rfl rfl dX6_init_58 ?_
  rintro _ _ _ _ ⟨rfl, rfl, rfl, rfl⟩
  refine wp_putF (fk := [some (some 1), some (some 4), none, some (some 7), some (some 21), some none, some none]) (ty := tyX6 5) tyX6 tyX6_ok nmX6 rfl (by decide) rfl in_X6_init_X6 5 (by decide) fl_X6_init_40 (by decide) rfl rfl rfl (tyX6_ok 5 (by decide)) (fun _ => rfl) (fun _ => rfl) dX6_init_61 ?_
  rw [show ([some (some 1), some (some 4), none, some (some 7), some (some 21), some none, some none] : List (Option (Option Nat))).set 5 (some (some 23)) = [some (some 1), some (some 4), none, some (some 7), some (some 21), some (some 23), some none] from rfl]
  refine wp_aload_n 0 dX6_init_64 rfl ?_
  refine wp_new (ci := 1) (T := TX1) (fk := [some none, some none, none, some none, some none, some none]) (k' := 14) (n' := 463) tyX1 tyX1_ok rfl in_X6_init_X1 (by decide +kernel) (by decide +kernel) (by decide +kernel) (by decide) (by decide) (by decide) rfl rfl dX6_init_65 ?_
  refine wp_dup rfl dX6_init_68 ?_
  refine wp_callI (As := []) (st := [.ref 31, .ref 0]) (k' := 14) (n' := 463) (k'' := 0) (n'' := 0) (ct_X1_31 (E := E) rfl) gX6_init_X1_init rfl (by decide +kernel) (by decide +kernel) (by decide +kernel) rfl hy_X1_init rfl (by decide) (by decide) (Nat.le_of_ble_eq_true rfl) rfl rfl rfl dX6_init_69 ?_
  rintro _ _ _ _ ⟨rfl, rfl, rfl, rfl⟩
  refine wp_putF (fk := [some (some 1), some (some 4), none, some (some 7), some (some 21), some (some 23), some none]) (ty := tyX6 6) tyX6 tyX6_ok nmX6 rfl (by decide) rfl in_X6_init_X6 6 (by decide) fl_X6_init_47 (by decide) rfl rfl rfl (tyX6_ok 6 (by decide)) (fun _ => rfl) (fun _ => rfl) dX6_init_72 ?_
  rw [show ([some (some 1), some (some 4), none, some (some 7), some (some 21), some (some 23), some none] : List (Option (Option Nat))).set 6 (some (some 31)) = [some (some 1), some (some 4), none, some (some 7), some (some 21), some (some 23), some (some 31)] from rfl]
  exact wp_return rfl dX6_init_75 ⟨rfl, rfl, rfl, rfl⟩
