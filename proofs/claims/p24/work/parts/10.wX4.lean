abbrev iX4_copyFrom : MI := (cX4_copyFrom, 2, none, RX4, yX4_copyFrom, wsX4_copyFrom)
theorem hy_X4_copyFrom : yX4_copyFrom.cls = RX4 ∧ yX4_copyFrom.cls ≠ "java/lang/invoke/MethodHandle" ∧ yX4_copyFrom.cls ≠ "java/lang/invoke/VarHandle" ∧ (parseMethodDescriptor yX4_copyFrom.desc).map (fun d => d.parameters.length) = some 1 := by decide +kernel
theorem in_X4_copyFrom_X4 : ∀ w ∈ u_ws RX4 TX4 7, w ∈ wsX4_copyFrom := by decide +kernel
theorem fl_X4_copyFrom_9 : Cond.fieldLink RX4 9 (TX4 0).1 (TX4 0).2.1 (TX4 0).2.2.1 ∈ wsX4_copyFrom := by decide +kernel
theorem fl_X4_copyFrom_15 : Cond.fieldLink RX4 15 (TX4 1).1 (TX4 1).2.1 (TX4 1).2.2.1 ∈ wsX4_copyFrom := by decide +kernel
theorem fl_X4_copyFrom_18 : Cond.fieldLink RX4 18 (TX4 2).1 (TX4 2).2.1 (TX4 2).2.2.1 ∈ wsX4_copyFrom := by decide +kernel
theorem fl_X4_copyFrom_21 : Cond.fieldLink RX4 21 (TX4 3).1 (TX4 3).2.1 (TX4 3).2.2.1 ∈ wsX4_copyFrom := by decide +kernel
theorem fl_X4_copyFrom_25 : Cond.fieldLink RX4 25 (TX4 4).1 (TX4 4).2.1 (TX4 4).2.2.1 ∈ wsX4_copyFrom := by decide +kernel
theorem fl_X4_copyFrom_28 : Cond.fieldLink RX4 28 (TX4 5).1 (TX4 5).2.1 (TX4 5).2.2.1 ∈ wsX4_copyFrom := by decide +kernel
theorem fl_X4_copyFrom_35 : Cond.fieldLink RX4 35 (TX4 6).1 (TX4 6).2.1 (TX4 6).2.2.1 ∈ wsX4_copyFrom := by decide +kernel
def w_X4_copyFrom (r0 : Nat) (r1 : Nat) (M : Nat → Nat → Int32) (Q : (Nat → Nat → Int32) → Prop) : Prop := ∀ M1 : Nat → Nat → Int32, M1 = um M r0 (upd (M r0) 0 (M r1 0)) → ∀ M2 : Nat → Nat → Int32, M2 = um M1 r0 (upd (M1 r0) 1 (M1 r1 1)) → ∀ M3 : Nat → Nat → Int32, M3 = um M2 r0 (upd (M2 r0) 2 (M2 r1 2)) → (zb (M3 r1 3) ∧ ∀ M4 : Nat → Nat → Int32, M4 = um M3 r0 (upd (M3 r0) 3 (M3 r1 3)) → ∀ M5 : Nat → Nat → Int32, M5 = um M4 r0 (upd (M4 r0) 4 (M4 r1 4)) → ∀ M6 : Nat → Nat → Int32, M6 = um M5 (r0 + 1) (va_cpy (M5 (r1 + 1)) (M5 (r0 + 1)) 0 0 8) → ∀ M7 : Nat → Nat → Int32, M7 = um M6 (r0 + 2) (va_cpy (M6 (r1 + 2)) (M6 (r0 + 2)) 0 0 4) → Q M7)
set_option maxHeartbeats 4000000 in
set_option maxRecDepth 100000 in
theorem mw_X4_copyFrom {E : EN} {r0 : Nat} {r1 : Nat} {M : Nat → Nat → Int32} {Q : (Nat → Nat → Int32) → Prop} (h0 : isS r0) (h1 : isS r1) (hs : w_X4_copyFrom r0 r1 M Q) : MW E iX4_copyFrom 1 0 0 false [.ref r0, .ref r1] σC 46 M (qV σC 46 Q) := by
  refine mw_intro (ls := [(0, .ref r0), (1, .ref r1)]) rfl (by decide +kernel) rfl rfl (Nat.le_of_ble_eq_true rfl) ?_
  have hQ : ∀ M, Q M → (qV σC 46 Q) none σC 46 M := fun _ h => ⟨rfl, rfl, rfl, h⟩
  generalize (qV σC 46 Q) = Qf at hQ ⊢
  unfold w_X4_copyFrom at hs
  refine wp_aload_n 0 dX4_copyFrom_0 rfl ?_
  refine wp_aload_n 1 dX4_copyFrom_1 rfl ?_
  refine wp_get (v := .int (M r1 0)) dX4_copyFrom_2 (σ_isS h1) (lt_isS h1) rfl in_X4_copyFrom_X4 0 (by decide) fl_X4_copyFrom_9 rfl rfl ?_
  refine wp_put (ty := .int) tyX4 tyX4_ok nmX4 (σ_isS h0) (lt_isS h0) rfl in_X4_copyFrom_X4 0 (by decide) fl_X4_copyFrom_9 rfl rfl (by decide +kernel) rfl rfl dX4_copyFrom_5 (fun M1 eM1 => ?_)
  have hs := hs M1 eM1
  refine wp_aload_n 0 dX4_copyFrom_8 rfl ?_
  refine wp_aload_n 1 dX4_copyFrom_9 rfl ?_
  refine wp_get (v := .int (M1 r1 1)) dX4_copyFrom_10 (σ_isS h1) (lt_isS h1) rfl in_X4_copyFrom_X4 1 (by decide) fl_X4_copyFrom_15 rfl rfl ?_
  refine wp_put (ty := .int) tyX4 tyX4_ok nmX4 (σ_isS h0) (lt_isS h0) rfl in_X4_copyFrom_X4 1 (by decide) fl_X4_copyFrom_15 rfl rfl (by decide +kernel) rfl rfl dX4_copyFrom_13 (fun M2 eM2 => ?_)
  have hs := hs M2 eM2
  refine wp_aload_n 0 dX4_copyFrom_16 rfl ?_
  refine wp_aload_n 1 dX4_copyFrom_17 rfl ?_
  refine wp_get (v := .int (M2 r1 2)) dX4_copyFrom_18 (σ_isS h1) (lt_isS h1) rfl in_X4_copyFrom_X4 2 (by decide) fl_X4_copyFrom_18 rfl rfl ?_
  refine wp_put (ty := .int) tyX4 tyX4_ok nmX4 (σ_isS h0) (lt_isS h0) rfl in_X4_copyFrom_X4 2 (by decide) fl_X4_copyFrom_18 rfl rfl (by decide +kernel) rfl rfl dX4_copyFrom_21 (fun M3 eM3 => ?_)
  have hs := hs M3 eM3
  refine wp_aload_n 0 dX4_copyFrom_24 rfl ?_
  refine wp_aload_n 1 dX4_copyFrom_25 rfl ?_
  refine wp_get (v := .int (M3 r1 3)) dX4_copyFrom_26 (σ_isS h1) (lt_isS h1) rfl in_X4_copyFrom_X4 3 (by decide) fl_X4_copyFrom_21 rfl rfl ?_
  have hz := hs.1
  have hs := hs.2
  refine wp_put (ty := .boolean) tyX4 tyX4_ok nmX4 (σ_isS h0) (lt_isS h0) rfl in_X4_copyFrom_X4 3 (by decide) fl_X4_copyFrom_21 rfl rfl (by decide +kernel) hz.1 hz.2 dX4_copyFrom_29 (fun M4 eM4 => ?_)
  have hs := hs M4 eM4
  refine wp_aload_n 0 dX4_copyFrom_32 rfl ?_
  refine wp_aload_n 1 dX4_copyFrom_33 rfl ?_
  refine wp_get (v := .int (M4 r1 4)) dX4_copyFrom_34 (σ_isS h1) (lt_isS h1) rfl in_X4_copyFrom_X4 4 (by decide) fl_X4_copyFrom_25 rfl rfl ?_
  refine wp_put (ty := .int) tyX4 tyX4_ok nmX4 (σ_isS h0) (lt_isS h0) rfl in_X4_copyFrom_X4 4 (by decide) fl_X4_copyFrom_25 rfl rfl (by decide +kernel) rfl rfl dX4_copyFrom_37 (fun M5 eM5 => ?_)
  have hs := hs M5 eM5
  refine wp_aload_n 1 dX4_copyFrom_40 rfl ?_
  refine wp_get (v := .ref (r1 + 1)) dX4_copyFrom_41 (σ_isS h1) (lt_isS h1) rfl in_X4_copyFrom_X4 5 (by decide) fl_X4_copyFrom_28 rfl rfl ?_
  refine wp_iconst (v := (nI 0)) dX4_copyFrom_44 (by decide) ?_
  refine wp_aload_n 0 dX4_copyFrom_45 rfl ?_
  refine wp_get (v := .ref (r0 + 1)) dX4_copyFrom_46 (σ_isS h0) (lt_isS h0) rfl in_X4_copyFrom_X4 5 (by decide) fl_X4_copyFrom_28 rfl rfl ?_
  refine wp_iconst (v := (nI 0)) dX4_copyFrom_49 (by decide) ?_
  refine wp_aload_n 0 dX4_copyFrom_50 rfl ?_
  refine wp_get (v := .ref (r0 + 1)) dX4_copyFrom_51 (σ_isS h0) (lt_isS h0) rfl in_X4_copyFrom_X4 5 (by decide) fl_X4_copyFrom_28 rfl rfl ?_
  refine wp_alen (v := nI 8) (σ_isS1 h0) (lt_isS1 h0) (by decide) (by decide) dX4_copyFrom_54 ?_
  refine wp_copy (by decide +kernel) (by decide +kernel) (by decide +kernel) (by decide +kernel) (σ_isS1 h1) (lt_isS1 h1) (σ_isS1 h0) (lt_isS1 h0) (by decide) (by decide) (by decide) (by decide) (by decide) (by decide) (Nat.le_of_ble_eq_true rfl) dX4_copyFrom_55 (fun M6 eM6 => ?_)
  have hs := hs M6 eM6
  refine wp_aload_n 1 dX4_copyFrom_58 rfl ?_
  refine wp_get (v := .ref (r1 + 2)) dX4_copyFrom_59 (σ_isS h1) (lt_isS h1) rfl in_X4_copyFrom_X4 6 (by decide) fl_X4_copyFrom_35 rfl rfl ?_
  refine wp_iconst (v := (nI 0)) dX4_copyFrom_62 (by decide) ?_
  refine wp_aload_n 0 dX4_copyFrom_63 rfl ?_
  refine wp_get (v := .ref (r0 + 2)) dX4_copyFrom_64 (σ_isS h0) (lt_isS h0) rfl in_X4_copyFrom_X4 6 (by decide) fl_X4_copyFrom_35 rfl rfl ?_
  refine wp_iconst (v := (nI 0)) dX4_copyFrom_67 (by decide) ?_
  refine wp_aload_n 0 dX4_copyFrom_68 rfl ?_
  refine wp_get (v := .ref (r0 + 2)) dX4_copyFrom_69 (σ_isS h0) (lt_isS h0) rfl in_X4_copyFrom_X4 6 (by decide) fl_X4_copyFrom_35 rfl rfl ?_
  refine wp_alen (v := nI 4) (σ_isS2 h0) (lt_isS2 h0) (by decide) (by decide) dX4_copyFrom_72 ?_
  refine wp_copy (by decide +kernel) (by decide +kernel) (by decide +kernel) (by decide +kernel) (σ_isS2 h1) (lt_isS2 h1) (σ_isS2 h0) (lt_isS2 h0) (by decide) (by decide) (by decide) (by decide) (by decide) (by decide) (Nat.le_of_ble_eq_true rfl) dX4_copyFrom_73 (fun M7 eM7 => ?_)
  have hs := hs M7 eM7
  exact wp_return rfl dX4_copyFrom_76 (hQ _ hs)
abbrev iX4_settingAt : MI := (cX4_settingAt, 2, some .int, RX4, yX4_settingAt, wsX4_settingAt)
theorem hy_X4_settingAt : yX4_settingAt.cls = RX4 ∧ yX4_settingAt.cls ≠ "java/lang/invoke/MethodHandle" ∧ yX4_settingAt.cls ≠ "java/lang/invoke/VarHandle" ∧ (parseMethodDescriptor yX4_settingAt.desc).map (fun d => d.parameters.length) = some 1 := by decide +kernel
theorem in_X4_settingAt_X4 : ∀ w ∈ u_ws RX4 TX4 7, w ∈ wsX4_settingAt := by decide +kernel
theorem fl_X4_settingAt_35 : Cond.fieldLink RX4 35 (TX4 6).1 (TX4 6).2.1 (TX4 6).2.2.1 ∈ wsX4_settingAt := by decide +kernel
def w_X4_settingAt (r0 : Nat) (a : Int32) (M : Nat → Nat → Int32) (Q : Int32 → (Nat → Nat → Int32) → Prop) : Prop := ((a < 0 → Q (nI 0) M) ∧ (¬ a < 0 → (((nI 4) ≤ a → Q (nI 0) M) ∧ (¬ (nI 4) ≤ a → (vp_in a 4 ∧ Q (M (r0 + 2) a.toNatClampNeg) M)))))
set_option maxHeartbeats 4000000 in
set_option maxRecDepth 100000 in
theorem mw_X4_settingAt {E : EN} {r0 : Nat} {a : Int32} {M : Nat → Nat → Int32} {Q : Int32 → (Nat → Nat → Int32) → Prop} (h0 : isS r0) (hs : w_X4_settingAt r0 a M Q) : MW E iX4_settingAt 1 0 0 false [.ref r0, .int a] σC 46 M (qI σC 46 Q) := by
  refine mw_intro (ls := [(0, .ref r0), (1, .int a)]) rfl (by decide +kernel) rfl rfl (Nat.le_of_ble_eq_true rfl) ?_
  have hQ : ∀ x M, Q x M → (qI σC 46 Q) (some (.int x)) σC 46 M := fun _ _ h => ⟨_, rfl, rfl, rfl, h⟩
  generalize (qI σC 46 Q) = Qf at hQ ⊢
  unfold w_X4_settingAt at hs
  refine wp_iload_n 1 dX4_settingAt_0 rfl ?_
  refine wp_if_lt (tgt := 22) dX4_settingAt_1 (by decide) (fun c1 => ?_) (fun c1 => ?_)
  · have hs := hs.1 c1
    refine wp_iconst (v := (nI 0)) dX4_settingAt_22 (by decide) ?_
    exact wp_ireturn rfl rfl dX4_settingAt_23 (hQ _ _ hs)
  · have hs := hs.2 c1
    refine wp_iload_n 1 dX4_settingAt_4 rfl ?_
    refine wp_aload_n 0 dX4_settingAt_5 rfl ?_
    refine wp_get (v := .ref (r0 + 2)) dX4_settingAt_6 (σ_isS h0) (lt_isS h0) rfl in_X4_settingAt_X4 6 (by decide) fl_X4_settingAt_35 rfl rfl ?_
    refine wp_alen (v := nI 4) (σ_isS2 h0) (lt_isS2 h0) (by decide) (by decide) dX4_settingAt_9 ?_
    refine wp_icmp_ge (tgt := 22) dX4_settingAt_10 (by decide) (fun c2 => ?_) (fun c2 => ?_)
    · have hs := hs.1 c2
      refine wp_iconst (v := (nI 0)) dX4_settingAt_22 (by decide) ?_
      exact wp_ireturn rfl rfl dX4_settingAt_23 (hQ _ _ hs)
    · have hs := hs.2 c2
      refine wp_aload_n 0 dX4_settingAt_13 rfl ?_
      refine wp_get (v := .ref (r0 + 2)) dX4_settingAt_14 (σ_isS h0) (lt_isS h0) rfl in_X4_settingAt_X4 6 (by decide) fl_X4_settingAt_35 rfl rfl ?_
      refine wp_iload_n 1 dX4_settingAt_17 rfl ?_
      have hv := hs.1
      have hs := hs.2
      refine wp_iald (σ_isS2 h0) (lt_isS2 h0) hv dX4_settingAt_18 ?_
      refine wp_goto (tgt := 23) dX4_settingAt_19 (by decide) ?_
      exact wp_ireturn rfl rfl dX4_settingAt_23 (hQ _ _ hs)
abbrev iX4_isUp : MI := (cX4_isUp, 2, some .boolean, RX4, yX4_isUp, wsX4_isUp)
theorem hy_X4_isUp : yX4_isUp.cls = RX4 ∧ yX4_isUp.cls ≠ "java/lang/invoke/MethodHandle" ∧ yX4_isUp.cls ≠ "java/lang/invoke/VarHandle" ∧ (parseMethodDescriptor yX4_isUp.desc).map (fun d => d.parameters.length) = some 1 := by decide +kernel
theorem in_X4_isUp_X4 : ∀ w ∈ u_ws RX4 TX4 7, w ∈ wsX4_isUp := by decide +kernel
theorem fl_X4_isUp_15 : Cond.fieldLink RX4 15 (TX4 1).1 (TX4 1).2.1 (TX4 1).2.2.1 ∈ wsX4_isUp := by decide +kernel
def w_X4_isUp (r0 : Nat) (a : Int32) (M : Nat → Nat → Int32) (Q : Int32 → (Nat → Nat → Int32) → Prop) : Prop := ((¬ (((M r0 1) >>> (a &&& 31)) &&& (nI 1)) = (nI 1) → Q (nI 0) M) ∧ ((((M r0 1) >>> (a &&& 31)) &&& (nI 1)) = (nI 1) → Q (nI 1) M))
set_option maxHeartbeats 4000000 in
set_option maxRecDepth 100000 in
theorem mw_X4_isUp {E : EN} {r0 : Nat} {a : Int32} {M : Nat → Nat → Int32} {Q : Int32 → (Nat → Nat → Int32) → Prop} (h0 : isS r0) (hs : w_X4_isUp r0 a M Q) : MW E iX4_isUp 1 0 0 false [.ref r0, .int a] σC 46 M (qI σC 46 Q) := by
  refine mw_intro (ls := [(0, .ref r0), (1, .int a)]) rfl (by decide +kernel) rfl rfl (Nat.le_of_ble_eq_true rfl) ?_
  have hQ : ∀ x M, Q x M → (qI σC 46 Q) (some (.int x)) σC 46 M := fun _ _ h => ⟨_, rfl, rfl, rfl, h⟩
  generalize (qI σC 46 Q) = Qf at hQ ⊢
  unfold w_X4_isUp at hs
  refine wp_aload_n 0 dX4_isUp_0 rfl ?_
  refine wp_get (v := .int (M r0 1)) dX4_isUp_1 (σ_isS h0) (lt_isS h0) rfl in_X4_isUp_X4 1 (by decide) fl_X4_isUp_15 rfl rfl ?_
  refine wp_iload_n 1 dX4_isUp_4 rfl ?_
  refine wp_ishr dX4_isUp_5 ?_
  refine wp_iconst (v := (nI 1)) dX4_isUp_6 (by decide) ?_
  refine wp_iand dX4_isUp_7 ?_
  refine wp_iconst (v := (nI 1)) dX4_isUp_8 (by decide) ?_
  refine wp_icmp_ne (tgt := 16) dX4_isUp_9 (by decide) (fun c1 => ?_) (fun c1 => ?_)
  · have hs := hs.1 c1
    refine wp_iconst (v := (nI 0)) dX4_isUp_16 (by decide) ?_
    exact wp_ireturn rfl rfl dX4_isUp_17 (hQ _ _ hs)
  · have hs := hs.2 c1
    refine wp_iconst (v := (nI 1)) dX4_isUp_12 (by decide) ?_
    refine wp_goto (tgt := 17) dX4_isUp_13 (by decide) ?_
    exact wp_ireturn rfl rfl dX4_isUp_17 (hQ _ _ hs)
abbrev iX4_lengthAt : MI := (cX4_lengthAt, 2, some .int, RX4, yX4_lengthAt, wsX4_lengthAt)
theorem hy_X4_lengthAt : yX4_lengthAt.cls = RX4 ∧ yX4_lengthAt.cls ≠ "java/lang/invoke/MethodHandle" ∧ yX4_lengthAt.cls ≠ "java/lang/invoke/VarHandle" ∧ (parseMethodDescriptor yX4_lengthAt.desc).map (fun d => d.parameters.length) = some 1 := by decide +kernel
theorem in_X4_lengthAt_X4 : ∀ w ∈ u_ws RX4 TX4 7, w ∈ wsX4_lengthAt := by decide +kernel
theorem fl_X4_lengthAt_28 : Cond.fieldLink RX4 28 (TX4 5).1 (TX4 5).2.1 (TX4 5).2.2.1 ∈ wsX4_lengthAt := by decide +kernel
def w_X4_lengthAt (r0 : Nat) (a : Int32) (M : Nat → Nat → Int32) (Q : Int32 → (Nat → Nat → Int32) → Prop) : Prop := ((a < 0 → Q (nI 0) M) ∧ (¬ a < 0 → (((nI 8) ≤ a → Q (nI 0) M) ∧ (¬ (nI 8) ≤ a → (vp_in a 8 ∧ Q (M (r0 + 1) a.toNatClampNeg) M)))))
set_option maxHeartbeats 4000000 in
set_option maxRecDepth 100000 in
theorem mw_X4_lengthAt {E : EN} {r0 : Nat} {a : Int32} {M : Nat → Nat → Int32} {Q : Int32 → (Nat → Nat → Int32) → Prop} (h0 : isS r0) (hs : w_X4_lengthAt r0 a M Q) : MW E iX4_lengthAt 1 0 0 false [.ref r0, .int a] σC 46 M (qI σC 46 Q) := by
  refine mw_intro (ls := [(0, .ref r0), (1, .int a)]) rfl (by decide +kernel) rfl rfl (Nat.le_of_ble_eq_true rfl) ?_
  have hQ : ∀ x M, Q x M → (qI σC 46 Q) (some (.int x)) σC 46 M := fun _ _ h => ⟨_, rfl, rfl, rfl, h⟩
  generalize (qI σC 46 Q) = Qf at hQ ⊢
  unfold w_X4_lengthAt at hs
  refine wp_iload_n 1 dX4_lengthAt_0 rfl ?_
  refine wp_if_lt (tgt := 22) dX4_lengthAt_1 (by decide) (fun c1 => ?_) (fun c1 => ?_)
  · have hs := hs.1 c1
    refine wp_iconst (v := (nI 0)) dX4_lengthAt_22 (by decide) ?_
    exact wp_ireturn rfl rfl dX4_lengthAt_23 (hQ _ _ hs)
  · have hs := hs.2 c1
    refine wp_iload_n 1 dX4_lengthAt_4 rfl ?_
    refine wp_aload_n 0 dX4_lengthAt_5 rfl ?_
    refine wp_get (v := .ref (r0 + 1)) dX4_lengthAt_6 (σ_isS h0) (lt_isS h0) rfl in_X4_lengthAt_X4 5 (by decide) fl_X4_lengthAt_28 rfl rfl ?_
    refine wp_alen (v := nI 8) (σ_isS1 h0) (lt_isS1 h0) (by decide) (by decide) dX4_lengthAt_9 ?_
    refine wp_icmp_ge (tgt := 22) dX4_lengthAt_10 (by decide) (fun c2 => ?_) (fun c2 => ?_)
    · have hs := hs.1 c2
      refine wp_iconst (v := (nI 0)) dX4_lengthAt_22 (by decide) ?_
      exact wp_ireturn rfl rfl dX4_lengthAt_23 (hQ _ _ hs)
    · have hs := hs.2 c2
      refine wp_aload_n 0 dX4_lengthAt_13 rfl ?_
      refine wp_get (v := .ref (r0 + 1)) dX4_lengthAt_14 (σ_isS h0) (lt_isS h0) rfl in_X4_lengthAt_X4 5 (by decide) fl_X4_lengthAt_28 rfl rfl ?_
      refine wp_iload_n 1 dX4_lengthAt_17 rfl ?_
      have hv := hs.1
      have hs := hs.2
      refine wp_iald (σ_isS1 h0) (lt_isS1 h0) hv dX4_lengthAt_18 ?_
      refine wp_goto (tgt := 23) dX4_lengthAt_19 (by decide) ?_
      exact wp_ireturn rfl rfl dX4_lengthAt_23 (hQ _ _ hs)
abbrev iX4_clampedLength : MI := (cX4_clampedLength, 5, some .int, RX4, yX4_clampedLength, wsX4_clampedLength)
theorem hy_X4_clampedLength : yX4_clampedLength.cls = RX4 ∧ yX4_clampedLength.cls ≠ "java/lang/invoke/MethodHandle" ∧ yX4_clampedLength.cls ≠ "java/lang/invoke/VarHandle" ∧ (parseMethodDescriptor yX4_clampedLength.desc).map (fun d => d.parameters.length) = some 2 := by decide +kernel
theorem in_X4_clampedLength_X4 : ∀ w ∈ u_ws RX4 TX4 7, w ∈ wsX4_clampedLength := by decide +kernel
theorem fl_X4_clampedLength_9 : Cond.fieldLink RX4 9 (TX4 0).1 (TX4 0).2.1 (TX4 0).2.2.1 ∈ wsX4_clampedLength := by decide +kernel
def w_X4_clampedLength_13 (r0 : Nat) : Nat → Int32 → Int32 → Int32 → (Nat → Nat → Int32) → (Int32 → Int32 → (Nat → Nat → Int32) → Prop) → Prop
  | 0, _, _, _, _, _ => False
  | n + 1, x2, x3, x4, M, K => (((M r0 0) ≤ x4 → K x3 x4 M) ∧ (¬ (M r0 0) ≤ x4 → ((¬ ((x2 >>> (x4 &&& 31)) &&& (nI 1)) = 0 → K x3 x4 M) ∧ (((x2 >>> (x4 &&& 31)) &&& (nI 1)) = 0 → w_X4_lengthAt r0 (x4 + (nI 1)) M (fun v7 M6 => ∀ y8 : Int32, y8 = (x3 + v7) → ∀ y9 : Int32, y9 = x4 + (nI 1) → w_X4_clampedLength_13 r0 n x2 y8 y9 M6 K)))))
set_option maxHeartbeats 4000000 in
set_option maxRecDepth 100000 in
theorem lp_X4_clampedLength_13 {E : EN} {r0 : Nat} {x2 : Int32} {Qf : PST} {K : Int32 → Int32 → (Nat → Nat → Int32) → Prop} (h0 : isS r0) (hK : ∀ (z3 : Int32) (z4 : Int32) (M : Nat → Nat → Int32), K z3 z4 M → WP E iX4_clampedLength 2 0 0 false 48 [(3, .int z3)] [] σC 46 M Qf) : ∀ (nn : Nat) (x3 : Int32) (x4 : Int32) (M : Nat → Nat → Int32), w_X4_clampedLength_13 r0 nn x2 x3 x4 M K → WP E iX4_clampedLength 2 0 0 false 13 [(0, .ref r0), (2, .int x2), (3, .int x3), (4, .int x4)] [] σC 46 M Qf := by
  intro nn
  induction nn with
  | zero => intro x3 x4 M hs; exact hs.elim
  | succ n ih =>
    intro x3 x4 M hs
    unfold w_X4_clampedLength_13 at hs
    refine wp_iload 3 dX4_clampedLength_13 rfl ?_
    refine wp_aload_n 0 dX4_clampedLength_15 rfl ?_
    refine wp_get (v := .int (M r0 0)) dX4_clampedLength_16 (σ_isS h0) (lt_isS h0) rfl in_X4_clampedLength_X4 0 (by decide) fl_X4_clampedLength_9 rfl rfl ?_
    refine wp_icmp_ge (tgt := 48) dX4_clampedLength_19 (by decide) (fun c4 => ?_) (fun c4 => ?_)
    · have hs := hs.1 c4
      refine wp_sub (ls' := [(3, .int x3)]) [2] rfl ?_
      exact hK _ _ _ hs
    · have hs := hs.2 c4
      refine wp_iload_n 1 dX4_clampedLength_22 rfl ?_
      refine wp_iload 3 dX4_clampedLength_23 rfl ?_
      refine wp_ishr dX4_clampedLength_25 ?_
      refine wp_iconst (v := (nI 1)) dX4_clampedLength_26 (by decide) ?_
      refine wp_iand dX4_clampedLength_27 ?_
      refine wp_if_ne (tgt := 48) dX4_clampedLength_28 (by decide) (fun c5 => ?_) (fun c5 => ?_)
      · have hs := hs.1 c5
        refine wp_sub (ls' := [(3, .int x3)]) [2] rfl ?_
        exact hK _ _ _ hs
      · have hs := hs.2 c5
        refine wp_iload_n 2 dX4_clampedLength_31 rfl ?_
        refine wp_aload_n 0 dX4_clampedLength_32 rfl ?_
        refine wp_iload 3 dX4_clampedLength_33 rfl ?_
        refine wp_iconst (v := (nI 1)) dX4_clampedLength_35 (by decide) ?_
        refine wp_iadd dX4_clampedLength_36 ?_
        refine wp_cVi (As := [.int (x4 + (nI 1))]) (st := [.int x3]) (mw_X4_lengthAt h0 hs) gX4_clampedLength_X4_lengthAt rfl hy_X4_lengthAt rfl (σ_isS h0) (lt_isS h0) rfl (by decide) (by decide) (Nat.le_of_ble_eq_true rfl) rfl dX4_clampedLength_37 (fun v7 M6 hs => ?_)
        refine wp_iadd dX4_clampedLength_40 ?_
        refine wp_topi (fun y8 ey8 => ?_)
        have hs := hs y8 ey8
        refine wp_istore_n (ls' := [(0, .ref r0), (2, .int x2), (3, .int y8), (4, .int x4)]) [1, 2, 0, 3] dX4_clampedLength_41 rfl (by decide) ?_
        obtain ⟨y9, ey9⟩ : ∃ y : Int32, y = x4 + (nI 1) := ⟨_, rfl⟩
        have hs := hs y9 ey9
        refine wp_iinc (v := y9) (ls' := [(0, .ref r0), (2, .int x2), (3, .int y8), (4, .int y9)]) 3 [1, 2, 3, 0] dX4_clampedLength_42 rfl (by rw [ey9]; rfl) rfl (by decide) ?_
        refine wp_goto (tgt := 13) dX4_clampedLength_45 (by decide) ?_
        refine wp_sub (ls' := [(0, .ref r0), (2, .int x2), (3, .int y8), (4, .int y9)]) [0, 1, 2, 3] rfl ?_
        exact ih _ _ _ hs
def w_X4_clampedLength (r0 : Nat) (a : Int32) (b : Int32) (M : Nat → Nat → Int32) (Q : Int32 → (Nat → Nat → Int32) → Prop) : Prop := w_X4_lengthAt r0 (a + (nI 1)) M (fun v2 M1 => ∀ y3 : Int32, y3 = (a + (nI 1)) → w_X4_clampedLength_13 r0 FU b v2 y3 M1 (fun y10 y11 M12 => Q y10 M12))
set_option maxHeartbeats 4000000 in
set_option maxRecDepth 100000 in
theorem mw_X4_clampedLength {E : EN} {r0 : Nat} {a : Int32} {b : Int32} {M : Nat → Nat → Int32} {Q : Int32 → (Nat → Nat → Int32) → Prop} (h0 : isS r0) (hs : w_X4_clampedLength r0 a b M Q) : MW E iX4_clampedLength 2 0 0 false [.ref r0, .int a, .int b] σC 46 M (qI σC 46 Q) := by
  refine mw_intro (ls := [(0, .ref r0), (1, .int a), (2, .int b)]) rfl (by decide +kernel) rfl rfl (Nat.le_of_ble_eq_true rfl) ?_
  have hQ : ∀ x M, Q x M → (qI σC 46 Q) (some (.int x)) σC 46 M := fun _ _ h => ⟨_, rfl, rfl, rfl, h⟩
  generalize (qI σC 46 Q) = Qf at hQ ⊢
  unfold w_X4_clampedLength at hs
  refine wp_aload_n 0 dX4_clampedLength_0 rfl ?_
  refine wp_iload_n 1 dX4_clampedLength_1 rfl ?_
  refine wp_iconst (v := (nI 1)) dX4_clampedLength_2 (by decide) ?_
  refine wp_iadd dX4_clampedLength_3 ?_
  refine wp_cVi (As := [.int (a + (nI 1))]) (st := []) (mw_X4_lengthAt h0 hs) gX4_clampedLength_X4_lengthAt rfl hy_X4_lengthAt rfl (σ_isS h0) (lt_isS h0) rfl (by decide) (by decide) (Nat.le_of_ble_eq_true rfl) rfl dX4_clampedLength_4 (fun v2 M1 hs => ?_)
  refine wp_istore_n (ls' := [(0, .ref r0), (1, .int a), (2, .int b), (3, .int v2)]) [1, 2, 3, 0] dX4_clampedLength_7 rfl (by decide) ?_
  refine wp_iload_n 1 dX4_clampedLength_8 rfl ?_
  refine wp_iconst (v := (nI 1)) dX4_clampedLength_9 (by decide) ?_
  refine wp_iadd dX4_clampedLength_10 ?_
  refine wp_topi (fun y3 ey3 => ?_)
  have hs := hs y3 ey3
  refine wp_istore (ls' := [(0, .ref r0), (1, .int a), (2, .int b), (3, .int v2), (4, .int y3)]) [1, 2, 3, 4, 0] dX4_clampedLength_11 rfl (by decide) ?_
  refine wp_sub (ls' := [(0, .ref r0), (2, .int b), (3, .int v2), (4, .int y3)]) [0, 2, 3, 4] rfl ?_
  refine lp_X4_clampedLength_13 h0 (K := fun y10 y11 M12 => Q y10 M12) (fun y10 y11 M12 hs => ?_) FU _ _ _ hs
  refine wp_iload_n 0 dX4_clampedLength_48 rfl ?_
  exact wp_ireturn rfl rfl dX4_clampedLength_49 (hQ _ _ hs)
abbrev iX4_allBends : MI := (cX4_allBends, 1, some .int, RX4, yX4_allBends, wsX4_allBends)
theorem hy_X4_allBends : yX4_allBends.cls = RX4 ∧ yX4_allBends.cls ≠ "java/lang/invoke/MethodHandle" ∧ yX4_allBends.cls ≠ "java/lang/invoke/VarHandle" ∧ (parseMethodDescriptor yX4_allBends.desc).map (fun d => d.parameters.length) = some 0 := by decide +kernel
theorem in_X4_allBends_X4 : ∀ w ∈ u_ws RX4 TX4 7, w ∈ wsX4_allBends := by decide +kernel
theorem fl_X4_allBends_9 : Cond.fieldLink RX4 9 (TX4 0).1 (TX4 0).2.1 (TX4 0).2.2.1 ∈ wsX4_allBends := by decide +kernel
def w_X4_allBends (r0 : Nat) (M : Nat → Nat → Int32) (Q : Int32 → (Nat → Nat → Int32) → Prop) : Prop := Q (((nI 1) <<< ((M r0 0) &&& 31)) - (nI 1)) M
set_option maxHeartbeats 4000000 in
set_option maxRecDepth 100000 in
theorem mw_X4_allBends {E : EN} {r0 : Nat} {M : Nat → Nat → Int32} {Q : Int32 → (Nat → Nat → Int32) → Prop} (h0 : isS r0) (hs : w_X4_allBends r0 M Q) : MW E iX4_allBends 1 0 0 false [.ref r0] σC 46 M (qI σC 46 Q) := by
  refine mw_intro (ls := [(0, .ref r0)]) rfl (by decide +kernel) rfl rfl (Nat.le_of_ble_eq_true rfl) ?_
  have hQ : ∀ x M, Q x M → (qI σC 46 Q) (some (.int x)) σC 46 M := fun _ _ h => ⟨_, rfl, rfl, rfl, h⟩
  generalize (qI σC 46 Q) = Qf at hQ ⊢
  unfold w_X4_allBends at hs
  refine wp_iconst (v := (nI 1)) dX4_allBends_0 (by decide) ?_
  refine wp_aload_n 0 dX4_allBends_1 rfl ?_
  refine wp_get (v := .int (M r0 0)) dX4_allBends_2 (σ_isS h0) (lt_isS h0) rfl in_X4_allBends_X4 0 (by decide) fl_X4_allBends_9 rfl rfl ?_
  refine wp_ishl dX4_allBends_5 ?_
  refine wp_iconst (v := (nI 1)) dX4_allBends_6 (by decide) ?_
  refine wp_isub dX4_allBends_7 ?_
  exact wp_ireturn rfl rfl dX4_allBends_8 (hQ _ _ hs)
abbrev iX4_bendsLike : MI := (cX4_bendsLike, 3, some .boolean, RX4, yX4_bendsLike, wsX4_bendsLike)
theorem hy_X4_bendsLike : yX4_bendsLike.cls = RX4 ∧ yX4_bendsLike.cls ≠ "java/lang/invoke/MethodHandle" ∧ yX4_bendsLike.cls ≠ "java/lang/invoke/VarHandle" ∧ (parseMethodDescriptor yX4_bendsLike.desc).map (fun d => d.parameters.length) = some 1 := by decide +kernel
theorem in_X4_bendsLike_X4 : ∀ w ∈ u_ws RX4 TX4 7, w ∈ wsX4_bendsLike := by decide +kernel
theorem fl_X4_bendsLike_9 : Cond.fieldLink RX4 9 (TX4 0).1 (TX4 0).2.1 (TX4 0).2.2.1 ∈ wsX4_bendsLike := by decide +kernel
theorem fl_X4_bendsLike_15 : Cond.fieldLink RX4 15 (TX4 1).1 (TX4 1).2.1 (TX4 1).2.2.1 ∈ wsX4_bendsLike := by decide +kernel
def w_X4_bendsLike_26 (r0 : Nat) (r1 : Nat) : Nat → Int32 → (Nat → Nat → Int32) → (Int32 → (Nat → Nat → Int32) → Prop) → (Int32 → (Nat → Nat → Int32) → Prop) → Prop
  | 0, _, _, _, _ => False
  | n + 1, x2, M, Q, K => (((M r0 0) < x2 → K x2 M) ∧ (¬ (M r0 0) < x2 → w_X4_lengthAt r0 x2 M (fun v5 M4 => w_X4_lengthAt r1 x2 M4 (fun v7 M6 => ((v5 = v7 → ∀ y9 : Int32, y9 = x2 + (nI 1) → w_X4_bendsLike_26 r0 r1 n y9 M6 Q K) ∧ (¬ v5 = v7 → Q (nI 0) M6))))))
set_option maxHeartbeats 4000000 in
set_option maxRecDepth 100000 in
theorem lp_X4_bendsLike_26 {E : EN} {r0 : Nat} {r1 : Nat} {Qf : PST} {Q : Int32 → (Nat → Nat → Int32) → Prop} {K : Int32 → (Nat → Nat → Int32) → Prop} (h0 : isS r0) (h1 : isS r1) (hQ : ∀ x M, Q x M → Qf (some (.int x)) σC 46 M) (hK : ∀ (z2 : Int32) (M : Nat → Nat → Int32), K z2 M → WP E iX4_bendsLike 2 0 0 false 55 [(0, .ref r0), (1, .ref r1)] [] σC 46 M Qf) : ∀ (nn : Nat) (x2 : Int32) (M : Nat → Nat → Int32), w_X4_bendsLike_26 r0 r1 nn x2 M Q K → WP E iX4_bendsLike 2 0 0 false 26 [(0, .ref r0), (1, .ref r1), (2, .int x2)] [] σC 46 M Qf := by
  intro nn
  induction nn with
  | zero => intro x2 M hs; exact hs.elim
  | succ n ih =>
    intro x2 M hs
    unfold w_X4_bendsLike_26 at hs
    refine wp_iload_n 2 dX4_bendsLike_26 rfl ?_
    refine wp_aload_n 0 dX4_bendsLike_27 rfl ?_
    refine wp_get (v := .int (M r0 0)) dX4_bendsLike_28 (σ_isS h0) (lt_isS h0) rfl in_X4_bendsLike_X4 0 (by decide) fl_X4_bendsLike_9 rfl rfl ?_
    refine wp_icmp_gt (tgt := 55) dX4_bendsLike_31 (by decide) (fun c3 => ?_) (fun c3 => ?_)
    · have hs := hs.1 c3
      refine wp_sub (ls' := [(0, .ref r0), (1, .ref r1)]) [0, 1] rfl ?_
      exact hK _ _ hs
    · have hs := hs.2 c3
      refine wp_aload_n 0 dX4_bendsLike_34 rfl ?_
      refine wp_iload_n 2 dX4_bendsLike_35 rfl ?_
      refine wp_cVi (As := [.int x2]) (st := []) (mw_X4_lengthAt h0 hs) gX4_bendsLike_X4_lengthAt rfl hy_X4_lengthAt rfl (σ_isS h0) (lt_isS h0) rfl (by decide) (by decide) (Nat.le_of_ble_eq_true rfl) rfl dX4_bendsLike_36 (fun v5 M4 hs => ?_)
      refine wp_aload_n 1 dX4_bendsLike_39 rfl ?_
      refine wp_iload_n 2 dX4_bendsLike_40 rfl ?_
      refine wp_cVi (As := [.int x2]) (st := [.int v5]) (mw_X4_lengthAt h1 hs) gX4_bendsLike_X4_lengthAt rfl hy_X4_lengthAt rfl (σ_isS h1) (lt_isS h1) rfl (by decide) (by decide) (Nat.le_of_ble_eq_true rfl) rfl dX4_bendsLike_41 (fun v7 M6 hs => ?_)
      refine wp_icmp_eq (tgt := 49) dX4_bendsLike_44 (by decide) (fun c8 => ?_) (fun c8 => ?_)
      · have hs := hs.1 c8
        obtain ⟨y9, ey9⟩ : ∃ y : Int32, y = x2 + (nI 1) := ⟨_, rfl⟩
        have hs := hs y9 ey9
        refine wp_iinc (v := y9) (ls' := [(0, .ref r0), (1, .ref r1), (2, .int y9)]) 2 [1, 2, 0] dX4_bendsLike_49 rfl (by rw [ey9]; rfl) rfl (by decide) ?_
        refine wp_goto (tgt := 26) dX4_bendsLike_52 (by decide) ?_
        refine wp_sub (ls' := [(0, .ref r0), (1, .ref r1), (2, .int y9)]) [0, 1, 2] rfl ?_
        exact ih _ _ hs
      · have hs := hs.2 c8
        refine wp_iconst (v := (nI 0)) dX4_bendsLike_47 (by decide) ?_
        exact wp_ireturn rfl rfl dX4_bendsLike_48 (hQ _ _ hs)
def w_X4_bendsLike (r0 : Nat) (r1 : Nat) (M : Nat → Nat → Int32) (Q : Int32 → (Nat → Nat → Int32) → Prop) : Prop := ((¬ (M r0 0) = (M r1 0) → Q (nI 0) M) ∧ ((M r0 0) = (M r1 0) → (((M r0 1) = (M r1 1) → w_X4_bendsLike_26 r0 r1 FU (nI 0) M Q (fun y10 M11 => w_X4_settingAt r0 (nI 0) M11 (fun v13 M12 => w_X4_settingAt r1 (nI 0) M12 (fun v15 M14 => ((¬ v13 = v15 → Q (nI 0) M14) ∧ (v13 = v15 → w_X4_settingAt r0 (nI 1) M14 (fun v18 M17 => w_X4_settingAt r1 (nI 1) M17 (fun v20 M19 => ((¬ v18 = v20 → Q (nI 0) M19) ∧ (v18 = v20 → w_X4_settingAt r0 (nI 2) M19 (fun v23 M22 => w_X4_settingAt r1 (nI 2) M22 (fun v25 M24 => ((¬ v23 = v25 → Q (nI 0) M24) ∧ (v23 = v25 → Q (nI 1) M24)))))))))))))) ∧ (¬ (M r0 1) = (M r1 1) → Q (nI 0) M))))
set_option maxHeartbeats 4000000 in
set_option maxRecDepth 100000 in
theorem mw_X4_bendsLike {E : EN} {r0 : Nat} {r1 : Nat} {M : Nat → Nat → Int32} {Q : Int32 → (Nat → Nat → Int32) → Prop} (h0 : isS r0) (h1 : isS r1) (hs : w_X4_bendsLike r0 r1 M Q) : MW E iX4_bendsLike 2 0 0 false [.ref r0, .ref r1] σC 46 M (qI σC 46 Q) := by
  refine mw_intro (ls := [(0, .ref r0), (1, .ref r1)]) rfl (by decide +kernel) rfl rfl (Nat.le_of_ble_eq_true rfl) ?_
  have hQ : ∀ x M, Q x M → (qI σC 46 Q) (some (.int x)) σC 46 M := fun _ _ h => ⟨_, rfl, rfl, rfl, h⟩
  generalize (qI σC 46 Q) = Qf at hQ ⊢
  unfold w_X4_bendsLike at hs
  refine wp_aload_n 0 dX4_bendsLike_0 rfl ?_
  refine wp_get (v := .int (M r0 0)) dX4_bendsLike_1 (σ_isS h0) (lt_isS h0) rfl in_X4_bendsLike_X4 0 (by decide) fl_X4_bendsLike_9 rfl rfl ?_
  refine wp_aload_n 1 dX4_bendsLike_4 rfl ?_
  refine wp_get (v := .int (M r1 0)) dX4_bendsLike_5 (σ_isS h1) (lt_isS h1) rfl in_X4_bendsLike_X4 0 (by decide) fl_X4_bendsLike_9 rfl rfl ?_
  refine wp_icmp_ne (tgt := 22) dX4_bendsLike_8 (by decide) (fun c1 => ?_) (fun c1 => ?_)
  · have hs := hs.1 c1
    refine wp_iconst (v := (nI 0)) dX4_bendsLike_22 (by decide) ?_
    exact wp_ireturn rfl rfl dX4_bendsLike_23 (hQ _ _ hs)
  · have hs := hs.2 c1
    refine wp_aload_n 0 dX4_bendsLike_11 rfl ?_
    refine wp_get (v := .int (M r0 1)) dX4_bendsLike_12 (σ_isS h0) (lt_isS h0) rfl in_X4_bendsLike_X4 1 (by decide) fl_X4_bendsLike_15 rfl rfl ?_
    refine wp_aload_n 1 dX4_bendsLike_15 rfl ?_
    refine wp_get (v := .int (M r1 1)) dX4_bendsLike_16 (σ_isS h1) (lt_isS h1) rfl in_X4_bendsLike_X4 1 (by decide) fl_X4_bendsLike_15 rfl rfl ?_
    refine wp_icmp_eq (tgt := 24) dX4_bendsLike_19 (by decide) (fun c2 => ?_) (fun c2 => ?_)
    · have hs := hs.1 c2
      refine wp_iconst (v := (nI 0)) dX4_bendsLike_24 (by decide) ?_
      refine wp_istore_n (ls' := [(0, .ref r0), (1, .ref r1), (2, .int (nI 0))]) [1, 2, 0] dX4_bendsLike_25 rfl (by decide) ?_
      refine wp_sub (ls' := [(0, .ref r0), (1, .ref r1), (2, .int (nI 0))]) [0, 1, 2] rfl ?_
      refine lp_X4_bendsLike_26 h0 h1 hQ (K := fun y10 M11 => w_X4_settingAt r0 (nI 0) M11 (fun v13 M12 => w_X4_settingAt r1 (nI 0) M12 (fun v15 M14 => ((¬ v13 = v15 → Q (nI 0) M14) ∧ (v13 = v15 → w_X4_settingAt r0 (nI 1) M14 (fun v18 M17 => w_X4_settingAt r1 (nI 1) M17 (fun v20 M19 => ((¬ v18 = v20 → Q (nI 0) M19) ∧ (v18 = v20 → w_X4_settingAt r0 (nI 2) M19 (fun v23 M22 => w_X4_settingAt r1 (nI 2) M22 (fun v25 M24 => ((¬ v23 = v25 → Q (nI 0) M24) ∧ (v23 = v25 → Q (nI 1) M24))))))))))))) (fun y10 M11 hs => ?_) FU _ _ hs
      refine wp_aload_n 0 dX4_bendsLike_55 rfl ?_
      refine wp_iconst (v := (nI 0)) dX4_bendsLike_56 (by decide) ?_
      refine wp_cVi (As := [.int (nI 0)]) (st := []) (mw_X4_settingAt h0 hs) gX4_bendsLike_X4_settingAt rfl hy_X4_settingAt rfl (σ_isS h0) (lt_isS h0) rfl (by decide) (by decide) (Nat.le_of_ble_eq_true rfl) rfl dX4_bendsLike_57 (fun v13 M12 hs => ?_)
      refine wp_aload_n 1 dX4_bendsLike_60 rfl ?_
      refine wp_iconst (v := (nI 0)) dX4_bendsLike_61 (by decide) ?_
      refine wp_cVi (As := [.int (nI 0)]) (st := [.int v13]) (mw_X4_settingAt h1 hs) gX4_bendsLike_X4_settingAt rfl hy_X4_settingAt rfl (σ_isS h1) (lt_isS h1) rfl (by decide) (by decide) (Nat.le_of_ble_eq_true rfl) rfl dX4_bendsLike_62 (fun v15 M14 hs => ?_)
      refine wp_icmp_ne (tgt := 98) dX4_bendsLike_65 (by decide) (fun c16 => ?_) (fun c16 => ?_)
      · have hs := hs.1 c16
        refine wp_iconst (v := (nI 0)) dX4_bendsLike_98 (by decide) ?_
        exact wp_ireturn rfl rfl dX4_bendsLike_99 (hQ _ _ hs)
      · have hs := hs.2 c16
        refine wp_aload_n 0 dX4_bendsLike_68 rfl ?_
        refine wp_iconst (v := (nI 1)) dX4_bendsLike_69 (by decide) ?_
        refine wp_cVi (As := [.int (nI 1)]) (st := []) (mw_X4_settingAt h0 hs) gX4_bendsLike_X4_settingAt rfl hy_X4_settingAt rfl (σ_isS h0) (lt_isS h0) rfl (by decide) (by decide) (Nat.le_of_ble_eq_true rfl) rfl dX4_bendsLike_70 (fun v18 M17 hs => ?_)
        refine wp_aload_n 1 dX4_bendsLike_73 rfl ?_
        refine wp_iconst (v := (nI 1)) dX4_bendsLike_74 (by decide) ?_
        refine wp_cVi (As := [.int (nI 1)]) (st := [.int v18]) (mw_X4_settingAt h1 hs) gX4_bendsLike_X4_settingAt rfl hy_X4_settingAt rfl (σ_isS h1) (lt_isS h1) rfl (by decide) (by decide) (Nat.le_of_ble_eq_true rfl) rfl dX4_bendsLike_75 (fun v20 M19 hs => ?_)
        refine wp_icmp_ne (tgt := 98) dX4_bendsLike_78 (by decide) (fun c21 => ?_) (fun c21 => ?_)
        · have hs := hs.1 c21
          refine wp_iconst (v := (nI 0)) dX4_bendsLike_98 (by decide) ?_
          exact wp_ireturn rfl rfl dX4_bendsLike_99 (hQ _ _ hs)
        · have hs := hs.2 c21
          refine wp_aload_n 0 dX4_bendsLike_81 rfl ?_
          refine wp_iconst (v := (nI 2)) dX4_bendsLike_82 (by decide) ?_
          refine wp_cVi (As := [.int (nI 2)]) (st := []) (mw_X4_settingAt h0 hs) gX4_bendsLike_X4_settingAt rfl hy_X4_settingAt rfl (σ_isS h0) (lt_isS h0) rfl (by decide) (by decide) (Nat.le_of_ble_eq_true rfl) rfl dX4_bendsLike_83 (fun v23 M22 hs => ?_)
          refine wp_aload_n 1 dX4_bendsLike_86 rfl ?_
          refine wp_iconst (v := (nI 2)) dX4_bendsLike_87 (by decide) ?_
          refine wp_cVi (As := [.int (nI 2)]) (st := [.int v23]) (mw_X4_settingAt h1 hs) gX4_bendsLike_X4_settingAt rfl hy_X4_settingAt rfl (σ_isS h1) (lt_isS h1) rfl (by decide) (by decide) (Nat.le_of_ble_eq_true rfl) rfl dX4_bendsLike_88 (fun v25 M24 hs => ?_)
          refine wp_icmp_ne (tgt := 98) dX4_bendsLike_91 (by decide) (fun c26 => ?_) (fun c26 => ?_)
          · have hs := hs.1 c26
            refine wp_iconst (v := (nI 0)) dX4_bendsLike_98 (by decide) ?_
            exact wp_ireturn rfl rfl dX4_bendsLike_99 (hQ _ _ hs)
          · have hs := hs.2 c26
            refine wp_iconst (v := (nI 1)) dX4_bendsLike_94 (by decide) ?_
            refine wp_goto (tgt := 99) dX4_bendsLike_95 (by decide) ?_
            exact wp_ireturn rfl rfl dX4_bendsLike_99 (hQ _ _ hs)
    · have hs := hs.2 c2
      refine wp_iconst (v := (nI 0)) dX4_bendsLike_22 (by decide) ?_
      exact wp_ireturn rfl rfl dX4_bendsLike_23 (hQ _ _ hs)
abbrev iX4_beginStrip : MI := (cX4_beginStrip, 2, none, RX4, yX4_beginStrip, wsX4_beginStrip)
theorem hy_X4_beginStrip : yX4_beginStrip.cls = RX4 ∧ yX4_beginStrip.cls ≠ "java/lang/invoke/MethodHandle" ∧ yX4_beginStrip.cls ≠ "java/lang/invoke/VarHandle" ∧ (parseMethodDescriptor yX4_beginStrip.desc).map (fun d => d.parameters.length) = some 1 := by decide +kernel
theorem in_X4_beginStrip_X4 : ∀ w ∈ u_ws RX4 TX4 7, w ∈ wsX4_beginStrip := by decide +kernel
theorem fl_X4_beginStrip_9 : Cond.fieldLink RX4 9 (TX4 0).1 (TX4 0).2.1 (TX4 0).2.2.1 ∈ wsX4_beginStrip := by decide +kernel
theorem fl_X4_beginStrip_15 : Cond.fieldLink RX4 15 (TX4 1).1 (TX4 1).2.1 (TX4 1).2.2.1 ∈ wsX4_beginStrip := by decide +kernel
theorem fl_X4_beginStrip_18 : Cond.fieldLink RX4 18 (TX4 2).1 (TX4 2).2.1 (TX4 2).2.2.1 ∈ wsX4_beginStrip := by decide +kernel
theorem fl_X4_beginStrip_21 : Cond.fieldLink RX4 21 (TX4 3).1 (TX4 3).2.1 (TX4 3).2.2.1 ∈ wsX4_beginStrip := by decide +kernel
def w_X4_beginStrip (r0 : Nat) (a : Int32) (M : Nat → Nat → Int32) (Q : (Nat → Nat → Int32) → Prop) : Prop := ∀ y1 : Int32, y1 = (if (nI 7) < a then (nI 7) else a) → ∀ y2 : Int32, y2 = (if (nI 1) < y1 then y1 else (nI 1)) → ∀ M3 : Nat → Nat → Int32, M3 = um M r0 (upd (M r0) 0 y2) → ∀ M4 : Nat → Nat → Int32, M4 = um M3 r0 (upd (M3 r0) 1 (nI 0)) → ∀ M5 : Nat → Nat → Int32, M5 = um M4 r0 (upd (M4 r0) 2 (nI 0)) → ∀ M6 : Nat → Nat → Int32, M6 = um M5 r0 (upd (M5 r0) 3 (nI 0)) → Q M6
set_option maxHeartbeats 4000000 in
set_option maxRecDepth 100000 in
theorem mw_X4_beginStrip {E : EN} {r0 : Nat} {a : Int32} {M : Nat → Nat → Int32} {Q : (Nat → Nat → Int32) → Prop} (h0 : isS r0) (hs : w_X4_beginStrip r0 a M Q) : MW E iX4_beginStrip 1 0 0 false [.ref r0, .int a] σC 46 M (qV σC 46 Q) := by
  refine mw_intro (ls := [(0, .ref r0), (1, .int a)]) rfl (by decide +kernel) rfl rfl (Nat.le_of_ble_eq_true rfl) ?_
  have hQ : ∀ M, Q M → (qV σC 46 Q) none σC 46 M := fun _ h => ⟨rfl, rfl, rfl, h⟩
  generalize (qV σC 46 Q) = Qf at hQ ⊢
  unfold w_X4_beginStrip at hs
  refine wp_aload_n 0 dX4_beginStrip_0 rfl ?_
  refine wp_iconst (v := (nI 1)) dX4_beginStrip_1 (by decide) ?_
  refine wp_iload_n 1 dX4_beginStrip_2 rfl ?_
  refine wp_bipush (v := (nI 7)) dX4_beginStrip_3 (by decide) ?_
  refine wp_mmin (by decide +kernel) (by decide +kernel) (by decide +kernel) (by decide +kernel) (by decide) (Nat.le_of_ble_eq_true rfl) dX4_beginStrip_5 ?_
  refine wp_topi (fun y1 ey1 => ?_)
  have hs := hs y1 ey1
  refine wp_mmax (by decide +kernel) (by decide +kernel) (by decide +kernel) (by decide +kernel) (by decide) (Nat.le_of_ble_eq_true rfl) dX4_beginStrip_8 ?_
  refine wp_topi (fun y2 ey2 => ?_)
  have hs := hs y2 ey2
  refine wp_put (ty := .int) tyX4 tyX4_ok nmX4 (σ_isS h0) (lt_isS h0) rfl in_X4_beginStrip_X4 0 (by decide) fl_X4_beginStrip_9 rfl rfl (by decide +kernel) rfl rfl dX4_beginStrip_11 (fun M3 eM3 => ?_)
  have hs := hs M3 eM3
  refine wp_aload_n 0 dX4_beginStrip_14 rfl ?_
  refine wp_iconst (v := (nI 0)) dX4_beginStrip_15 (by decide) ?_
  refine wp_put (ty := .int) tyX4 tyX4_ok nmX4 (σ_isS h0) (lt_isS h0) rfl in_X4_beginStrip_X4 1 (by decide) fl_X4_beginStrip_15 rfl rfl (by decide +kernel) rfl rfl dX4_beginStrip_16 (fun M4 eM4 => ?_)
  have hs := hs M4 eM4
  refine wp_aload_n 0 dX4_beginStrip_19 rfl ?_
  refine wp_iconst (v := (nI 0)) dX4_beginStrip_20 (by decide) ?_
  refine wp_put (ty := .int) tyX4 tyX4_ok nmX4 (σ_isS h0) (lt_isS h0) rfl in_X4_beginStrip_X4 2 (by decide) fl_X4_beginStrip_18 rfl rfl (by decide +kernel) rfl rfl dX4_beginStrip_21 (fun M5 eM5 => ?_)
  have hs := hs M5 eM5
  refine wp_aload_n 0 dX4_beginStrip_24 rfl ?_
  refine wp_iconst (v := (nI 0)) dX4_beginStrip_25 (by decide) ?_
  refine wp_put (ty := .boolean) tyX4 tyX4_ok nmX4 (σ_isS h0) (lt_isS h0) rfl in_X4_beginStrip_X4 3 (by decide) fl_X4_beginStrip_21 rfl rfl (by decide +kernel) rfl rfl dX4_beginStrip_26 (fun M6 eM6 => ?_)
  have hs := hs M6 eM6
  exact wp_return rfl dX4_beginStrip_29 (hQ _ hs)
abbrev iX4_hasBend : MI := (cX4_hasBend, 2, some .boolean, RX4, yX4_hasBend, wsX4_hasBend)
theorem hy_X4_hasBend : yX4_hasBend.cls = RX4 ∧ yX4_hasBend.cls ≠ "java/lang/invoke/MethodHandle" ∧ yX4_hasBend.cls ≠ "java/lang/invoke/VarHandle" ∧ (parseMethodDescriptor yX4_hasBend.desc).map (fun d => d.parameters.length) = some 1 := by decide +kernel
theorem in_X4_hasBend_X4 : ∀ w ∈ u_ws RX4 TX4 7, w ∈ wsX4_hasBend := by decide +kernel
theorem fl_X4_hasBend_9 : Cond.fieldLink RX4 9 (TX4 0).1 (TX4 0).2.1 (TX4 0).2.2.1 ∈ wsX4_hasBend := by decide +kernel
def w_X4_hasBend (r0 : Nat) (a : Int32) (M : Nat → Nat → Int32) (Q : Int32 → (Nat → Nat → Int32) → Prop) : Prop := ((a < 0 → Q (nI 0) M) ∧ (¬ a < 0 → (((M r0 0) ≤ a → Q (nI 0) M) ∧ (¬ (M r0 0) ≤ a → Q (nI 1) M))))
set_option maxHeartbeats 4000000 in
set_option maxRecDepth 100000 in
theorem mw_X4_hasBend {E : EN} {r0 : Nat} {a : Int32} {M : Nat → Nat → Int32} {Q : Int32 → (Nat → Nat → Int32) → Prop} (h0 : isS r0) (hs : w_X4_hasBend r0 a M Q) : MW E iX4_hasBend 1 0 0 false [.ref r0, .int a] σC 46 M (qI σC 46 Q) := by
  refine mw_intro (ls := [(0, .ref r0), (1, .int a)]) rfl (by decide +kernel) rfl rfl (Nat.le_of_ble_eq_true rfl) ?_
  have hQ : ∀ x M, Q x M → (qI σC 46 Q) (some (.int x)) σC 46 M := fun _ _ h => ⟨_, rfl, rfl, rfl, h⟩
  generalize (qI σC 46 Q) = Qf at hQ ⊢
  unfold w_X4_hasBend at hs
  refine wp_iload_n 1 dX4_hasBend_0 rfl ?_
  refine wp_if_lt (tgt := 16) dX4_hasBend_1 (by decide) (fun c1 => ?_) (fun c1 => ?_)
  · have hs := hs.1 c1
    refine wp_iconst (v := (nI 0)) dX4_hasBend_16 (by decide) ?_
    exact wp_ireturn rfl rfl dX4_hasBend_17 (hQ _ _ hs)
  · have hs := hs.2 c1
    refine wp_iload_n 1 dX4_hasBend_4 rfl ?_
    refine wp_aload_n 0 dX4_hasBend_5 rfl ?_
    refine wp_get (v := .int (M r0 0)) dX4_hasBend_6 (σ_isS h0) (lt_isS h0) rfl in_X4_hasBend_X4 0 (by decide) fl_X4_hasBend_9 rfl rfl ?_
    refine wp_icmp_ge (tgt := 16) dX4_hasBend_9 (by decide) (fun c2 => ?_) (fun c2 => ?_)
    · have hs := hs.1 c2
      refine wp_iconst (v := (nI 0)) dX4_hasBend_16 (by decide) ?_
      exact wp_ireturn rfl rfl dX4_hasBend_17 (hQ _ _ hs)
    · have hs := hs.2 c2
      refine wp_iconst (v := (nI 1)) dX4_hasBend_12 (by decide) ?_
      refine wp_goto (tgt := 17) dX4_hasBend_13 (by decide) ?_
      exact wp_ireturn rfl rfl dX4_hasBend_17 (hQ _ _ hs)
abbrev iX4_hasFlange : MI := (cX4_hasFlange, 2, some .boolean, RX4, yX4_hasFlange, wsX4_hasFlange)
theorem hy_X4_hasFlange : yX4_hasFlange.cls = RX4 ∧ yX4_hasFlange.cls ≠ "java/lang/invoke/MethodHandle" ∧ yX4_hasFlange.cls ≠ "java/lang/invoke/VarHandle" ∧ (parseMethodDescriptor yX4_hasFlange.desc).map (fun d => d.parameters.length) = some 1 := by decide +kernel
theorem in_X4_hasFlange_X4 : ∀ w ∈ u_ws RX4 TX4 7, w ∈ wsX4_hasFlange := by decide +kernel
theorem fl_X4_hasFlange_9 : Cond.fieldLink RX4 9 (TX4 0).1 (TX4 0).2.1 (TX4 0).2.2.1 ∈ wsX4_hasFlange := by decide +kernel
def w_X4_hasFlange (r0 : Nat) (a : Int32) (M : Nat → Nat → Int32) (Q : Int32 → (Nat → Nat → Int32) → Prop) : Prop := ((a < 0 → Q (nI 0) M) ∧ (¬ a < 0 → (((M r0 0) < a → Q (nI 0) M) ∧ (¬ (M r0 0) < a → Q (nI 1) M))))
set_option maxHeartbeats 4000000 in
set_option maxRecDepth 100000 in
theorem mw_X4_hasFlange {E : EN} {r0 : Nat} {a : Int32} {M : Nat → Nat → Int32} {Q : Int32 → (Nat → Nat → Int32) → Prop} (h0 : isS r0) (hs : w_X4_hasFlange r0 a M Q) : MW E iX4_hasFlange 1 0 0 false [.ref r0, .int a] σC 46 M (qI σC 46 Q) := by
  refine mw_intro (ls := [(0, .ref r0), (1, .int a)]) rfl (by decide +kernel) rfl rfl (Nat.le_of_ble_eq_true rfl) ?_
  have hQ : ∀ x M, Q x M → (qI σC 46 Q) (some (.int x)) σC 46 M := fun _ _ h => ⟨_, rfl, rfl, rfl, h⟩
  generalize (qI σC 46 Q) = Qf at hQ ⊢
  unfold w_X4_hasFlange at hs
  refine wp_iload_n 1 dX4_hasFlange_0 rfl ?_
  refine wp_if_lt (tgt := 16) dX4_hasFlange_1 (by decide) (fun c1 => ?_) (fun c1 => ?_)
  · have hs := hs.1 c1
    refine wp_iconst (v := (nI 0)) dX4_hasFlange_16 (by decide) ?_
    exact wp_ireturn rfl rfl dX4_hasFlange_17 (hQ _ _ hs)
  · have hs := hs.2 c1
    refine wp_iload_n 1 dX4_hasFlange_4 rfl ?_
    refine wp_aload_n 0 dX4_hasFlange_5 rfl ?_
    refine wp_get (v := .int (M r0 0)) dX4_hasFlange_6 (σ_isS h0) (lt_isS h0) rfl in_X4_hasFlange_X4 0 (by decide) fl_X4_hasFlange_9 rfl rfl ?_
    refine wp_icmp_gt (tgt := 16) dX4_hasFlange_9 (by decide) (fun c2 => ?_) (fun c2 => ?_)
    · have hs := hs.1 c2
      refine wp_iconst (v := (nI 0)) dX4_hasFlange_16 (by decide) ?_
      exact wp_ireturn rfl rfl dX4_hasFlange_17 (hQ _ _ hs)
    · have hs := hs.2 c2
      refine wp_iconst (v := (nI 1)) dX4_hasFlange_12 (by decide) ?_
      refine wp_goto (tgt := 17) dX4_hasFlange_13 (by decide) ?_
      exact wp_ireturn rfl rfl dX4_hasFlange_17 (hQ _ _ hs)
abbrev iX4_isDone : MI := (cX4_isDone, 2, some .boolean, RX4, yX4_isDone, wsX4_isDone)
theorem hy_X4_isDone : yX4_isDone.cls = RX4 ∧ yX4_isDone.cls ≠ "java/lang/invoke/MethodHandle" ∧ yX4_isDone.cls ≠ "java/lang/invoke/VarHandle" ∧ (parseMethodDescriptor yX4_isDone.desc).map (fun d => d.parameters.length) = some 1 := by decide +kernel
theorem in_X4_isDone_X4 : ∀ w ∈ u_ws RX4 TX4 7, w ∈ wsX4_isDone := by decide +kernel
theorem fl_X4_isDone_18 : Cond.fieldLink RX4 18 (TX4 2).1 (TX4 2).2.1 (TX4 2).2.2.1 ∈ wsX4_isDone := by decide +kernel
def w_X4_isDone (r0 : Nat) (a : Int32) (M : Nat → Nat → Int32) (Q : Int32 → (Nat → Nat → Int32) → Prop) : Prop := ((¬ (((M r0 2) >>> (a &&& 31)) &&& (nI 1)) = (nI 1) → Q (nI 0) M) ∧ ((((M r0 2) >>> (a &&& 31)) &&& (nI 1)) = (nI 1) → Q (nI 1) M))
set_option maxHeartbeats 4000000 in
set_option maxRecDepth 100000 in
theorem mw_X4_isDone {E : EN} {r0 : Nat} {a : Int32} {M : Nat → Nat → Int32} {Q : Int32 → (Nat → Nat → Int32) → Prop} (h0 : isS r0) (hs : w_X4_isDone r0 a M Q) : MW E iX4_isDone 1 0 0 false [.ref r0, .int a] σC 46 M (qI σC 46 Q) := by
  refine mw_intro (ls := [(0, .ref r0), (1, .int a)]) rfl (by decide +kernel) rfl rfl (Nat.le_of_ble_eq_true rfl) ?_
  have hQ : ∀ x M, Q x M → (qI σC 46 Q) (some (.int x)) σC 46 M := fun _ _ h => ⟨_, rfl, rfl, rfl, h⟩
  generalize (qI σC 46 Q) = Qf at hQ ⊢
  unfold w_X4_isDone at hs
  refine wp_aload_n 0 dX4_isDone_0 rfl ?_
  refine wp_get (v := .int (M r0 2)) dX4_isDone_1 (σ_isS h0) (lt_isS h0) rfl in_X4_isDone_X4 2 (by decide) fl_X4_isDone_18 rfl rfl ?_
  refine wp_iload_n 1 dX4_isDone_4 rfl ?_
  refine wp_ishr dX4_isDone_5 ?_
  refine wp_iconst (v := (nI 1)) dX4_isDone_6 (by decide) ?_
  refine wp_iand dX4_isDone_7 ?_
  refine wp_iconst (v := (nI 1)) dX4_isDone_8 (by decide) ?_
  refine wp_icmp_ne (tgt := 16) dX4_isDone_9 (by decide) (fun c1 => ?_) (fun c1 => ?_)
  · have hs := hs.1 c1
    refine wp_iconst (v := (nI 0)) dX4_isDone_16 (by decide) ?_
    exact wp_ireturn rfl rfl dX4_isDone_17 (hQ _ _ hs)
  · have hs := hs.2 c1
    refine wp_iconst (v := (nI 1)) dX4_isDone_12 (by decide) ?_
    refine wp_goto (tgt := 17) dX4_isDone_13 (by decide) ?_
    exact wp_ireturn rfl rfl dX4_isDone_17 (hQ _ _ hs)
abbrev iX4_putUp : MI := (cX4_putUp, 3, none, RX4, yX4_putUp, wsX4_putUp)
theorem hy_X4_putUp : yX4_putUp.cls = RX4 ∧ yX4_putUp.cls ≠ "java/lang/invoke/MethodHandle" ∧ yX4_putUp.cls ≠ "java/lang/invoke/VarHandle" ∧ (parseMethodDescriptor yX4_putUp.desc).map (fun d => d.parameters.length) = some 2 := by decide +kernel
theorem in_X4_putUp_X4 : ∀ w ∈ u_ws RX4 TX4 7, w ∈ wsX4_putUp := by decide +kernel
theorem fl_X4_putUp_15 : Cond.fieldLink RX4 15 (TX4 1).1 (TX4 1).2.1 (TX4 1).2.2.1 ∈ wsX4_putUp := by decide +kernel
def w_X4_putUp (r0 : Nat) (a : Int32) (b : Int32) (M : Nat → Nat → Int32) (Q : (Nat → Nat → Int32) → Prop) : Prop := ((b = 0 → ∀ M2 : Nat → Nat → Int32, M2 = um M r0 (upd (M r0) 1 ((M r0 1) &&& (((nI 1) <<< (a &&& 31)) ^^^ (-1 : Int32)))) → Q M2) ∧ (¬ b = 0 → ∀ M3 : Nat → Nat → Int32, M3 = um M r0 (upd (M r0) 1 ((M r0 1) ||| ((nI 1) <<< (a &&& 31)))) → Q M3))
set_option maxHeartbeats 4000000 in
set_option maxRecDepth 100000 in
theorem mw_X4_putUp {E : EN} {r0 : Nat} {a : Int32} {b : Int32} {M : Nat → Nat → Int32} {Q : (Nat → Nat → Int32) → Prop} (h0 : isS r0) (hs : w_X4_putUp r0 a b M Q) : MW E iX4_putUp 1 0 0 false [.ref r0, .int a, .int b] σC 46 M (qV σC 46 Q) := by
  refine mw_intro (ls := [(0, .ref r0), (1, .int a), (2, .int b)]) rfl (by decide +kernel) rfl rfl (Nat.le_of_ble_eq_true rfl) ?_
  have hQ : ∀ M, Q M → (qV σC 46 Q) none σC 46 M := fun _ h => ⟨rfl, rfl, rfl, h⟩
  generalize (qV σC 46 Q) = Qf at hQ ⊢
  unfold w_X4_putUp at hs
  refine wp_aload_n 0 dX4_putUp_0 rfl ?_
  refine wp_iload_n 2 dX4_putUp_1 rfl ?_
  refine wp_if_eq (tgt := 16) dX4_putUp_2 (by decide) (fun c1 => ?_) (fun c1 => ?_)
  · have hs := hs.1 c1
    refine wp_aload_n 0 dX4_putUp_16 rfl ?_
    refine wp_get (v := .int (M r0 1)) dX4_putUp_17 (σ_isS h0) (lt_isS h0) rfl in_X4_putUp_X4 1 (by decide) fl_X4_putUp_15 rfl rfl ?_
    refine wp_iconst (v := (nI 1)) dX4_putUp_20 (by decide) ?_
    refine wp_iload_n 1 dX4_putUp_21 rfl ?_
    refine wp_ishl dX4_putUp_22 ?_
    refine wp_iconst (v := (-1 : Int32)) dX4_putUp_23 (by decide) ?_
    refine wp_ixor dX4_putUp_24 ?_
    refine wp_iand dX4_putUp_25 ?_
    refine wp_put (ty := .int) tyX4 tyX4_ok nmX4 (σ_isS h0) (lt_isS h0) rfl in_X4_putUp_X4 1 (by decide) fl_X4_putUp_15 rfl rfl (by decide +kernel) rfl rfl dX4_putUp_26 (fun M2 eM2 => ?_)
    have hs := hs M2 eM2
    exact wp_return rfl dX4_putUp_29 (hQ _ hs)
  · have hs := hs.2 c1
    refine wp_aload_n 0 dX4_putUp_5 rfl ?_
    refine wp_get (v := .int (M r0 1)) dX4_putUp_6 (σ_isS h0) (lt_isS h0) rfl in_X4_putUp_X4 1 (by decide) fl_X4_putUp_15 rfl rfl ?_
    refine wp_iconst (v := (nI 1)) dX4_putUp_9 (by decide) ?_
    refine wp_iload_n 1 dX4_putUp_10 rfl ?_
    refine wp_ishl dX4_putUp_11 ?_
    refine wp_ior dX4_putUp_12 ?_
    refine wp_goto (tgt := 26) dX4_putUp_13 (by decide) ?_
    refine wp_put (ty := .int) tyX4 tyX4_ok nmX4 (σ_isS h0) (lt_isS h0) rfl in_X4_putUp_X4 1 (by decide) fl_X4_putUp_15 rfl rfl (by decide +kernel) rfl rfl dX4_putUp_26 (fun M3 eM3 => ?_)
    have hs := hs M3 eM3
    exact wp_return rfl dX4_putUp_29 (hQ _ hs)
abbrev iX4_doBend : MI := (cX4_doBend, 2, none, RX4, yX4_doBend, wsX4_doBend)
theorem hy_X4_doBend : yX4_doBend.cls = RX4 ∧ yX4_doBend.cls ≠ "java/lang/invoke/MethodHandle" ∧ yX4_doBend.cls ≠ "java/lang/invoke/VarHandle" ∧ (parseMethodDescriptor yX4_doBend.desc).map (fun d => d.parameters.length) = some 1 := by decide +kernel
theorem in_X4_doBend_X4 : ∀ w ∈ u_ws RX4 TX4 7, w ∈ wsX4_doBend := by decide +kernel
theorem fl_X4_doBend_18 : Cond.fieldLink RX4 18 (TX4 2).1 (TX4 2).2.1 (TX4 2).2.2.1 ∈ wsX4_doBend := by decide +kernel
theorem fl_X4_doBend_25 : Cond.fieldLink RX4 25 (TX4 4).1 (TX4 4).2.1 (TX4 4).2.2.1 ∈ wsX4_doBend := by decide +kernel
def w_X4_doBend (r0 : Nat) (a : Int32) (M : Nat → Nat → Int32) (Q : (Nat → Nat → Int32) → Prop) : Prop := ∀ M1 : Nat → Nat → Int32, M1 = um M r0 (upd (M r0) 2 ((M r0 2) ||| ((nI 1) <<< (a &&& 31)))) → ∀ M2 : Nat → Nat → Int32, M2 = um M1 r0 (upd (M1 r0) 4 ((M1 r0 4) + (nI 1))) → Q M2
set_option maxHeartbeats 4000000 in
set_option maxRecDepth 100000 in
theorem mw_X4_doBend {E : EN} {r0 : Nat} {a : Int32} {M : Nat → Nat → Int32} {Q : (Nat → Nat → Int32) → Prop} (h0 : isS r0) (hs : w_X4_doBend r0 a M Q) : MW E iX4_doBend 1 0 0 false [.ref r0, .int a] σC 46 M (qV σC 46 Q) := by
  refine mw_intro (ls := [(0, .ref r0), (1, .int a)]) rfl (by decide +kernel) rfl rfl (Nat.le_of_ble_eq_true rfl) ?_
  have hQ : ∀ M, Q M → (qV σC 46 Q) none σC 46 M := fun _ h => ⟨rfl, rfl, rfl, h⟩
  generalize (qV σC 46 Q) = Qf at hQ ⊢
  unfold w_X4_doBend at hs
  refine wp_aload_n 0 dX4_doBend_0 rfl ?_
  refine wp_dup rfl dX4_doBend_1 ?_
  refine wp_get (v := .int (M r0 2)) dX4_doBend_2 (σ_isS h0) (lt_isS h0) rfl in_X4_doBend_X4 2 (by decide) fl_X4_doBend_18 rfl rfl ?_
  refine wp_iconst (v := (nI 1)) dX4_doBend_5 (by decide) ?_
  refine wp_iload_n 1 dX4_doBend_6 rfl ?_
  refine wp_ishl dX4_doBend_7 ?_
  refine wp_ior dX4_doBend_8 ?_
  refine wp_put (ty := .int) tyX4 tyX4_ok nmX4 (σ_isS h0) (lt_isS h0) rfl in_X4_doBend_X4 2 (by decide) fl_X4_doBend_18 rfl rfl (by decide +kernel) rfl rfl dX4_doBend_9 (fun M1 eM1 => ?_)
  have hs := hs M1 eM1
  refine wp_aload_n 0 dX4_doBend_12 rfl ?_
  refine wp_dup rfl dX4_doBend_13 ?_
  refine wp_get (v := .int (M1 r0 4)) dX4_doBend_14 (σ_isS h0) (lt_isS h0) rfl in_X4_doBend_X4 4 (by decide) fl_X4_doBend_25 rfl rfl ?_
  refine wp_iconst (v := (nI 1)) dX4_doBend_17 (by decide) ?_
  refine wp_iadd dX4_doBend_18 ?_
  refine wp_put (ty := .int) tyX4 tyX4_ok nmX4 (σ_isS h0) (lt_isS h0) rfl in_X4_doBend_X4 4 (by decide) fl_X4_doBend_25 rfl rfl (by decide +kernel) rfl rfl dX4_doBend_19 (fun M2 eM2 => ?_)
  have hs := hs M2 eM2
  exact wp_return rfl dX4_doBend_22 (hQ _ hs)
abbrev iJ6_bitCount_0f7a4 : MI := (cJ6_bitCount_0f7a4, 1, some .int, RJ6, yJ6_bitCount_0f7a4, wsJ6_bitCount_0f7a4)
theorem hy_J6_bitCount_0f7a4 : yJ6_bitCount_0f7a4.cls ≠ "java/lang/invoke/MethodHandle" ∧ yJ6_bitCount_0f7a4.cls ≠ "java/lang/invoke/VarHandle" ∧ (parseMethodDescriptor yJ6_bitCount_0f7a4.desc).map (fun d => d.parameters.length) = some 1 := by decide +kernel
def w_J6_bitCount_0f7a4 (a : Int32) (M : Nat → Nat → Int32) (Q : Int32 → (Nat → Nat → Int32) → Prop) : Prop := ∀ y1 : Int32, y1 = (a - (((a).toUInt32 >>> (((nI 1)).toUInt32 &&& Int32.toUInt32 31)).toInt32 &&& (nI 1431655765))) → ∀ y2 : Int32, y2 = ((y1 &&& (nI 858993459)) + (((y1).toUInt32 >>> (((nI 2)).toUInt32 &&& Int32.toUInt32 31)).toInt32 &&& (nI 858993459))) → ∀ y3 : Int32, y3 = ((y2 + ((y2).toUInt32 >>> (((nI 4)).toUInt32 &&& Int32.toUInt32 31)).toInt32) &&& (nI 252645135)) → ∀ y4 : Int32, y4 = (y3 + ((y3).toUInt32 >>> (((nI 8)).toUInt32 &&& Int32.toUInt32 31)).toInt32) → ∀ y5 : Int32, y5 = (y4 + ((y4).toUInt32 >>> (((nI 16)).toUInt32 &&& Int32.toUInt32 31)).toInt32) → Q (y5 &&& (nI 63)) M
set_option maxHeartbeats 4000000 in
set_option maxRecDepth 100000 in
theorem mw_J6_bitCount_0f7a4 {E : EN} {σ : Nat → KD} {N : Nat} {a : Int32} {M : Nat → Nat → Int32} {Q : Int32 → (Nat → Nat → Int32) → Prop} (hs : w_J6_bitCount_0f7a4 a M Q) : MW E iJ6_bitCount_0f7a4 1 0 0 false [.int a] σ N M (qI σ N Q) := by
  refine mw_intro (ls := [(0, .int a)]) rfl (by decide +kernel) rfl rfl (Nat.le_of_ble_eq_true rfl) ?_
  have hQ : ∀ x M, Q x M → (qI σ N Q) (some (.int x)) σ N M := fun _ _ h => ⟨_, rfl, rfl, rfl, h⟩
  generalize (qI σ N Q) = Qf at hQ ⊢
  unfold w_J6_bitCount_0f7a4 at hs
  refine wp_iload_n 0 dJ6_bitCount_0f7a4_0 rfl ?_
  refine wp_iload_n 0 dJ6_bitCount_0f7a4_1 rfl ?_
  refine wp_iconst (v := (nI 1)) dJ6_bitCount_0f7a4_2 (by decide) ?_
  refine wp_iushr dJ6_bitCount_0f7a4_3 rfl ?_
  refine wp_ldcw (v := (nI 1431655765)) (by decide +kernel) dJ6_bitCount_0f7a4_4 ?_
  refine wp_iand dJ6_bitCount_0f7a4_7 ?_
  refine wp_isub dJ6_bitCount_0f7a4_8 ?_
  refine wp_topi (fun y1 ey1 => ?_)
  have hs := hs y1 ey1
  refine wp_istore_n (ls' := [(0, .int y1)]) [0] dJ6_bitCount_0f7a4_9 rfl (by decide) ?_
  refine wp_iload_n 0 dJ6_bitCount_0f7a4_10 rfl ?_
  refine wp_ldcw (v := (nI 858993459)) (by decide +kernel) dJ6_bitCount_0f7a4_11 ?_
  refine wp_iand dJ6_bitCount_0f7a4_14 ?_
  refine wp_iload_n 0 dJ6_bitCount_0f7a4_15 rfl ?_
  refine wp_iconst (v := (nI 2)) dJ6_bitCount_0f7a4_16 (by decide) ?_
  refine wp_iushr dJ6_bitCount_0f7a4_17 rfl ?_
  refine wp_ldcw (v := (nI 858993459)) (by decide +kernel) dJ6_bitCount_0f7a4_18 ?_
  refine wp_iand dJ6_bitCount_0f7a4_21 ?_
  refine wp_iadd dJ6_bitCount_0f7a4_22 ?_
  refine wp_topi (fun y2 ey2 => ?_)
  have hs := hs y2 ey2
  refine wp_istore_n (ls' := [(0, .int y2)]) [0] dJ6_bitCount_0f7a4_23 rfl (by decide) ?_
  refine wp_iload_n 0 dJ6_bitCount_0f7a4_24 rfl ?_
  refine wp_iload_n 0 dJ6_bitCount_0f7a4_25 rfl ?_
  refine wp_iconst (v := (nI 4)) dJ6_bitCount_0f7a4_26 (by decide) ?_
  refine wp_iushr dJ6_bitCount_0f7a4_27 rfl ?_
  refine wp_iadd dJ6_bitCount_0f7a4_28 ?_
  refine wp_ldcw (v := (nI 252645135)) (by decide +kernel) dJ6_bitCount_0f7a4_29 ?_
  refine wp_iand dJ6_bitCount_0f7a4_32 ?_
  refine wp_topi (fun y3 ey3 => ?_)
  have hs := hs y3 ey3
  refine wp_istore_n (ls' := [(0, .int y3)]) [0] dJ6_bitCount_0f7a4_33 rfl (by decide) ?_
  refine wp_iload_n 0 dJ6_bitCount_0f7a4_34 rfl ?_
  refine wp_iload_n 0 dJ6_bitCount_0f7a4_35 rfl ?_
  refine wp_bipush (v := (nI 8)) dJ6_bitCount_0f7a4_36 (by decide) ?_
  refine wp_iushr dJ6_bitCount_0f7a4_38 rfl ?_
  refine wp_iadd dJ6_bitCount_0f7a4_39 ?_
  refine wp_topi (fun y4 ey4 => ?_)
  have hs := hs y4 ey4
  refine wp_istore_n (ls' := [(0, .int y4)]) [0] dJ6_bitCount_0f7a4_40 rfl (by decide) ?_
  refine wp_iload_n 0 dJ6_bitCount_0f7a4_41 rfl ?_
  refine wp_iload_n 0 dJ6_bitCount_0f7a4_42 rfl ?_
  refine wp_bipush (v := (nI 16)) dJ6_bitCount_0f7a4_43 (by decide) ?_
  refine wp_iushr dJ6_bitCount_0f7a4_45 rfl ?_
  refine wp_iadd dJ6_bitCount_0f7a4_46 ?_
  refine wp_topi (fun y5 ey5 => ?_)
  have hs := hs y5 ey5
  refine wp_istore_n (ls' := [(0, .int y5)]) [0] dJ6_bitCount_0f7a4_47 rfl (by decide) ?_
  refine wp_iload_n 0 dJ6_bitCount_0f7a4_48 rfl ?_
  refine wp_bipush (v := (nI 63)) dJ6_bitCount_0f7a4_49 (by decide) ?_
  refine wp_iand dJ6_bitCount_0f7a4_51 ?_
  exact wp_ireturn rfl rfl dJ6_bitCount_0f7a4_52 (hQ _ _ hs)
abbrev iX4_doneBends : MI := (cX4_doneBends, 1, some .int, RX4, yX4_doneBends, wsX4_doneBends)
theorem hy_X4_doneBends : yX4_doneBends.cls = RX4 ∧ yX4_doneBends.cls ≠ "java/lang/invoke/MethodHandle" ∧ yX4_doneBends.cls ≠ "java/lang/invoke/VarHandle" ∧ (parseMethodDescriptor yX4_doneBends.desc).map (fun d => d.parameters.length) = some 0 := by decide +kernel
theorem in_X4_doneBends_X4 : ∀ w ∈ u_ws RX4 TX4 7, w ∈ wsX4_doneBends := by decide +kernel
theorem fl_X4_doneBends_18 : Cond.fieldLink RX4 18 (TX4 2).1 (TX4 2).2.1 (TX4 2).2.2.1 ∈ wsX4_doneBends := by decide +kernel
def w_X4_doneBends (r0 : Nat) (M : Nat → Nat → Int32) (Q : Int32 → (Nat → Nat → Int32) → Prop) : Prop := w_J6_bitCount_0f7a4 (M r0 2) M (fun v2 M1 => Q v2 M1)
set_option maxHeartbeats 4000000 in
set_option maxRecDepth 100000 in
theorem mw_X4_doneBends {E : EN} {r0 : Nat} {M : Nat → Nat → Int32} {Q : Int32 → (Nat → Nat → Int32) → Prop} (h0 : isS r0) (hs : w_X4_doneBends r0 M Q) : MW E iX4_doneBends 2 0 0 false [.ref r0] σC 46 M (qI σC 46 Q) := by
  refine mw_intro (ls := [(0, .ref r0)]) rfl (by decide +kernel) rfl rfl (Nat.le_of_ble_eq_true rfl) ?_
  have hQ : ∀ x M, Q x M → (qI σC 46 Q) (some (.int x)) σC 46 M := fun _ _ h => ⟨_, rfl, rfl, rfl, h⟩
  generalize (qI σC 46 Q) = Qf at hQ ⊢
  unfold w_X4_doneBends at hs
  refine wp_aload_n 0 dX4_doneBends_0 rfl ?_
  refine wp_get (v := .int (M r0 2)) dX4_doneBends_1 (σ_isS h0) (lt_isS h0) rfl in_X4_doneBends_X4 2 (by decide) fl_X4_doneBends_18 rfl rfl ?_
  refine wp_cSi (As := [.int (M r0 2)]) (st := []) (mw_J6_bitCount_0f7a4  hs) gX4_doneBends_J6_bitCount_0f7a4 rfl hy_J6_bitCount_0f7a4 rfl (by decide) (by decide) (Nat.le_of_ble_eq_true rfl) rfl dX4_doneBends_4 (fun v2 M1 hs => ?_)
  exact wp_ireturn rfl rfl dX4_doneBends_7 (hQ _ _ hs)
abbrev iX4_openBends : MI := (cX4_openBends, 1, some .int, RX4, yX4_openBends, wsX4_openBends)
theorem hy_X4_openBends : yX4_openBends.cls = RX4 ∧ yX4_openBends.cls ≠ "java/lang/invoke/MethodHandle" ∧ yX4_openBends.cls ≠ "java/lang/invoke/VarHandle" ∧ (parseMethodDescriptor yX4_openBends.desc).map (fun d => d.parameters.length) = some 0 := by decide +kernel
theorem in_X4_openBends_X4 : ∀ w ∈ u_ws RX4 TX4 7, w ∈ wsX4_openBends := by decide +kernel
theorem fl_X4_openBends_9 : Cond.fieldLink RX4 9 (TX4 0).1 (TX4 0).2.1 (TX4 0).2.2.1 ∈ wsX4_openBends := by decide +kernel
def w_X4_openBends (r0 : Nat) (M : Nat → Nat → Int32) (Q : Int32 → (Nat → Nat → Int32) → Prop) : Prop := w_X4_doneBends r0 M (fun v2 M1 => Q ((M r0 0) - v2) M1)
set_option maxHeartbeats 4000000 in
set_option maxRecDepth 100000 in
theorem mw_X4_openBends {E : EN} {r0 : Nat} {M : Nat → Nat → Int32} {Q : Int32 → (Nat → Nat → Int32) → Prop} (h0 : isS r0) (hs : w_X4_openBends r0 M Q) : MW E iX4_openBends 3 0 0 false [.ref r0] σC 46 M (qI σC 46 Q) := by
  refine mw_intro (ls := [(0, .ref r0)]) rfl (by decide +kernel) rfl rfl (Nat.le_of_ble_eq_true rfl) ?_
  have hQ : ∀ x M, Q x M → (qI σC 46 Q) (some (.int x)) σC 46 M := fun _ _ h => ⟨_, rfl, rfl, rfl, h⟩
  generalize (qI σC 46 Q) = Qf at hQ ⊢
  unfold w_X4_openBends at hs
  refine wp_aload_n 0 dX4_openBends_0 rfl ?_
  refine wp_get (v := .int (M r0 0)) dX4_openBends_1 (σ_isS h0) (lt_isS h0) rfl in_X4_openBends_X4 0 (by decide) fl_X4_openBends_9 rfl rfl ?_
  refine wp_aload_n 0 dX4_openBends_4 rfl ?_
  refine wp_cVi (As := []) (st := [.int (M r0 0)]) (mw_X4_doneBends h0 hs) gX4_openBends_X4_doneBends rfl hy_X4_doneBends rfl (σ_isS h0) (lt_isS h0) rfl (by decide) (by decide) (Nat.le_of_ble_eq_true rfl) rfl dX4_openBends_5 (fun v2 M1 hs => ?_)
  refine wp_isub dX4_openBends_8 ?_
  exact wp_ireturn rfl rfl dX4_openBends_9 (hQ _ _ hs)
abbrev iX4_putLength : MI := (cX4_putLength, 3, none, RX4, yX4_putLength, wsX4_putLength)
theorem hy_X4_putLength : yX4_putLength.cls = RX4 ∧ yX4_putLength.cls ≠ "java/lang/invoke/MethodHandle" ∧ yX4_putLength.cls ≠ "java/lang/invoke/VarHandle" ∧ (parseMethodDescriptor yX4_putLength.desc).map (fun d => d.parameters.length) = some 2 := by decide +kernel
theorem in_X4_putLength_X4 : ∀ w ∈ u_ws RX4 TX4 7, w ∈ wsX4_putLength := by decide +kernel
theorem fl_X4_putLength_28 : Cond.fieldLink RX4 28 (TX4 5).1 (TX4 5).2.1 (TX4 5).2.2.1 ∈ wsX4_putLength := by decide +kernel
def w_X4_putLength (r0 : Nat) (a : Int32) (b : Int32) (M : Nat → Nat → Int32) (Q : (Nat → Nat → Int32) → Prop) : Prop := ((a < 0 → Q M) ∧ (¬ a < 0 → (((nI 8) ≤ a → Q M) ∧ (¬ (nI 8) ≤ a → (vp_in a 8 ∧ ∀ M3 : Nat → Nat → Int32, M3 = um M (r0 + 1) (upd (M (r0 + 1)) a.toNatClampNeg b) → Q M3)))))
set_option maxHeartbeats 4000000 in
set_option maxRecDepth 100000 in
theorem mw_X4_putLength {E : EN} {r0 : Nat} {a : Int32} {b : Int32} {M : Nat → Nat → Int32} {Q : (Nat → Nat → Int32) → Prop} (h0 : isS r0) (hs : w_X4_putLength r0 a b M Q) : MW E iX4_putLength 1 0 0 false [.ref r0, .int a, .int b] σC 46 M (qV σC 46 Q) := by
  refine mw_intro (ls := [(0, .ref r0), (1, .int a), (2, .int b)]) rfl (by decide +kernel) rfl rfl (Nat.le_of_ble_eq_true rfl) ?_
  have hQ : ∀ M, Q M → (qV σC 46 Q) none σC 46 M := fun _ h => ⟨rfl, rfl, rfl, h⟩
  generalize (qV σC 46 Q) = Qf at hQ ⊢
  unfold w_X4_putLength at hs
  refine wp_iload_n 1 dX4_putLength_0 rfl ?_
  refine wp_if_lt (tgt := 20) dX4_putLength_1 (by decide) (fun c1 => ?_) (fun c1 => ?_)
  · have hs := hs.1 c1
    exact wp_return rfl dX4_putLength_20 (hQ _ hs)
  · have hs := hs.2 c1
    refine wp_iload_n 1 dX4_putLength_4 rfl ?_
    refine wp_aload_n 0 dX4_putLength_5 rfl ?_
    refine wp_get (v := .ref (r0 + 1)) dX4_putLength_6 (σ_isS h0) (lt_isS h0) rfl in_X4_putLength_X4 5 (by decide) fl_X4_putLength_28 rfl rfl ?_
    refine wp_alen (v := nI 8) (σ_isS1 h0) (lt_isS1 h0) (by decide) (by decide) dX4_putLength_9 ?_
    refine wp_icmp_ge (tgt := 20) dX4_putLength_10 (by decide) (fun c2 => ?_) (fun c2 => ?_)
    · have hs := hs.1 c2
      exact wp_return rfl dX4_putLength_20 (hQ _ hs)
    · have hs := hs.2 c2
      refine wp_aload_n 0 dX4_putLength_13 rfl ?_
      refine wp_get (v := .ref (r0 + 1)) dX4_putLength_14 (σ_isS h0) (lt_isS h0) rfl in_X4_putLength_X4 5 (by decide) fl_X4_putLength_28 rfl rfl ?_
      refine wp_iload_n 1 dX4_putLength_17 rfl ?_
      refine wp_iload_n 2 dX4_putLength_18 rfl ?_
      have hv := hs.1
      have hs := hs.2
      refine wp_iast (σ_isS1 h0) (lt_isS1 h0) hv dX4_putLength_19 (fun M3 eM3 => ?_)
      have hs := hs M3 eM3
      exact wp_return rfl dX4_putLength_20 (hQ _ hs)
abbrev iX4_putSetting : MI := (cX4_putSetting, 3, none, RX4, yX4_putSetting, wsX4_putSetting)
theorem hy_X4_putSetting : yX4_putSetting.cls = RX4 ∧ yX4_putSetting.cls ≠ "java/lang/invoke/MethodHandle" ∧ yX4_putSetting.cls ≠ "java/lang/invoke/VarHandle" ∧ (parseMethodDescriptor yX4_putSetting.desc).map (fun d => d.parameters.length) = some 2 := by decide +kernel
theorem in_X4_putSetting_X4 : ∀ w ∈ u_ws RX4 TX4 7, w ∈ wsX4_putSetting := by decide +kernel
theorem fl_X4_putSetting_35 : Cond.fieldLink RX4 35 (TX4 6).1 (TX4 6).2.1 (TX4 6).2.2.1 ∈ wsX4_putSetting := by decide +kernel
def w_X4_putSetting (r0 : Nat) (a : Int32) (b : Int32) (M : Nat → Nat → Int32) (Q : (Nat → Nat → Int32) → Prop) : Prop := ((a < 0 → Q M) ∧ (¬ a < 0 → (((nI 4) ≤ a → Q M) ∧ (¬ (nI 4) ≤ a → (vp_in a 4 ∧ ∀ M3 : Nat → Nat → Int32, M3 = um M (r0 + 2) (upd (M (r0 + 2)) a.toNatClampNeg b) → Q M3)))))
set_option maxHeartbeats 4000000 in
set_option maxRecDepth 100000 in
theorem mw_X4_putSetting {E : EN} {r0 : Nat} {a : Int32} {b : Int32} {M : Nat → Nat → Int32} {Q : (Nat → Nat → Int32) → Prop} (h0 : isS r0) (hs : w_X4_putSetting r0 a b M Q) : MW E iX4_putSetting 1 0 0 false [.ref r0, .int a, .int b] σC 46 M (qV σC 46 Q) := by
  refine mw_intro (ls := [(0, .ref r0), (1, .int a), (2, .int b)]) rfl (by decide +kernel) rfl rfl (Nat.le_of_ble_eq_true rfl) ?_
  have hQ : ∀ M, Q M → (qV σC 46 Q) none σC 46 M := fun _ h => ⟨rfl, rfl, rfl, h⟩
  generalize (qV σC 46 Q) = Qf at hQ ⊢
  unfold w_X4_putSetting at hs
  refine wp_iload_n 1 dX4_putSetting_0 rfl ?_
  refine wp_if_lt (tgt := 20) dX4_putSetting_1 (by decide) (fun c1 => ?_) (fun c1 => ?_)
  · have hs := hs.1 c1
    exact wp_return rfl dX4_putSetting_20 (hQ _ hs)
  · have hs := hs.2 c1
    refine wp_iload_n 1 dX4_putSetting_4 rfl ?_
    refine wp_aload_n 0 dX4_putSetting_5 rfl ?_
    refine wp_get (v := .ref (r0 + 2)) dX4_putSetting_6 (σ_isS h0) (lt_isS h0) rfl in_X4_putSetting_X4 6 (by decide) fl_X4_putSetting_35 rfl rfl ?_
    refine wp_alen (v := nI 4) (σ_isS2 h0) (lt_isS2 h0) (by decide) (by decide) dX4_putSetting_9 ?_
    refine wp_icmp_ge (tgt := 20) dX4_putSetting_10 (by decide) (fun c2 => ?_) (fun c2 => ?_)
    · have hs := hs.1 c2
      exact wp_return rfl dX4_putSetting_20 (hQ _ hs)
    · have hs := hs.2 c2
      refine wp_aload_n 0 dX4_putSetting_13 rfl ?_
      refine wp_get (v := .ref (r0 + 2)) dX4_putSetting_14 (σ_isS h0) (lt_isS h0) rfl in_X4_putSetting_X4 6 (by decide) fl_X4_putSetting_35 rfl rfl ?_
      refine wp_iload_n 1 dX4_putSetting_17 rfl ?_
      refine wp_iload_n 2 dX4_putSetting_18 rfl ?_
      have hv := hs.1
      have hs := hs.2
      refine wp_iast (σ_isS2 h0) (lt_isS2 h0) hv dX4_putSetting_19 (fun M3 eM3 => ?_)
      have hs := hs M3 eM3
      exact wp_return rfl dX4_putSetting_20 (hQ _ hs)
abbrev iX4_wholeLength : MI := (cX4_wholeLength, 3, some .int, RX4, yX4_wholeLength, wsX4_wholeLength)
theorem hy_X4_wholeLength : yX4_wholeLength.cls = RX4 ∧ yX4_wholeLength.cls ≠ "java/lang/invoke/MethodHandle" ∧ yX4_wholeLength.cls ≠ "java/lang/invoke/VarHandle" ∧ (parseMethodDescriptor yX4_wholeLength.desc).map (fun d => d.parameters.length) = some 0 := by decide +kernel
theorem in_X4_wholeLength_X4 : ∀ w ∈ u_ws RX4 TX4 7, w ∈ wsX4_wholeLength := by decide +kernel
theorem fl_X4_wholeLength_9 : Cond.fieldLink RX4 9 (TX4 0).1 (TX4 0).2.1 (TX4 0).2.2.1 ∈ wsX4_wholeLength := by decide +kernel
def w_X4_wholeLength_4 (r0 : Nat) : Nat → Int32 → Int32 → (Nat → Nat → Int32) → (Int32 → Int32 → (Nat → Nat → Int32) → Prop) → Prop
  | 0, _, _, _, _ => False
  | n + 1, x1, x2, M, K => (((M r0 0) < x2 → K x1 x2 M) ∧ (¬ (M r0 0) < x2 → w_X4_lengthAt r0 x2 M (fun v3 M2 => ∀ y4 : Int32, y4 = (x1 + v3) → ∀ y5 : Int32, y5 = x2 + (nI 1) → w_X4_wholeLength_4 r0 n y4 y5 M2 K)))
set_option maxHeartbeats 4000000 in
set_option maxRecDepth 100000 in
theorem lp_X4_wholeLength_4 {E : EN} {r0 : Nat} {Qf : PST} {K : Int32 → Int32 → (Nat → Nat → Int32) → Prop} (h0 : isS r0) (hK : ∀ (z1 : Int32) (z2 : Int32) (M : Nat → Nat → Int32), K z1 z2 M → WP E iX4_wholeLength 2 0 0 false 26 [(1, .int z1)] [] σC 46 M Qf) : ∀ (nn : Nat) (x1 : Int32) (x2 : Int32) (M : Nat → Nat → Int32), w_X4_wholeLength_4 r0 nn x1 x2 M K → WP E iX4_wholeLength 2 0 0 false 4 [(0, .ref r0), (1, .int x1), (2, .int x2)] [] σC 46 M Qf := by
  intro nn
  induction nn with
  | zero => intro x1 x2 M hs; exact hs.elim
  | succ n ih =>
    intro x1 x2 M hs
    unfold w_X4_wholeLength_4 at hs
    refine wp_iload_n 2 dX4_wholeLength_4 rfl ?_
    refine wp_aload_n 0 dX4_wholeLength_5 rfl ?_
    refine wp_get (v := .int (M r0 0)) dX4_wholeLength_6 (σ_isS h0) (lt_isS h0) rfl in_X4_wholeLength_X4 0 (by decide) fl_X4_wholeLength_9 rfl rfl ?_
    refine wp_icmp_gt (tgt := 26) dX4_wholeLength_9 (by decide) (fun c1 => ?_) (fun c1 => ?_)
    · have hs := hs.1 c1
      refine wp_sub (ls' := [(1, .int x1)]) [1] rfl ?_
      exact hK _ _ _ hs
    · have hs := hs.2 c1
      refine wp_iload_n 1 dX4_wholeLength_12 rfl ?_
      refine wp_aload_n 0 dX4_wholeLength_13 rfl ?_
      refine wp_iload_n 2 dX4_wholeLength_14 rfl ?_
      refine wp_cVi (As := [.int x2]) (st := [.int x1]) (mw_X4_lengthAt h0 hs) gX4_wholeLength_X4_lengthAt rfl hy_X4_lengthAt rfl (σ_isS h0) (lt_isS h0) rfl (by decide) (by decide) (Nat.le_of_ble_eq_true rfl) rfl dX4_wholeLength_15 (fun v3 M2 hs => ?_)
      refine wp_iadd dX4_wholeLength_18 ?_
      refine wp_topi (fun y4 ey4 => ?_)
      have hs := hs y4 ey4
      refine wp_istore_n (ls' := [(0, .ref r0), (1, .int y4), (2, .int x2)]) [1, 0, 2] dX4_wholeLength_19 rfl (by decide) ?_
      obtain ⟨y5, ey5⟩ : ∃ y : Int32, y = x2 + (nI 1) := ⟨_, rfl⟩
      have hs := hs y5 ey5
      refine wp_iinc (v := y5) (ls' := [(0, .ref r0), (1, .int y4), (2, .int y5)]) 2 [1, 2, 0] dX4_wholeLength_20 rfl (by rw [ey5]; rfl) rfl (by decide) ?_
      refine wp_goto (tgt := 4) dX4_wholeLength_23 (by decide) ?_
      refine wp_sub (ls' := [(0, .ref r0), (1, .int y4), (2, .int y5)]) [0, 1, 2] rfl ?_
      exact ih _ _ _ hs
def w_X4_wholeLength (r0 : Nat) (M : Nat → Nat → Int32) (Q : Int32 → (Nat → Nat → Int32) → Prop) : Prop := w_X4_wholeLength_4 r0 FU (nI 0) (nI 0) M (fun y6 y7 M8 => Q y6 M8)
set_option maxHeartbeats 4000000 in
set_option maxRecDepth 100000 in
theorem mw_X4_wholeLength {E : EN} {r0 : Nat} {M : Nat → Nat → Int32} {Q : Int32 → (Nat → Nat → Int32) → Prop} (h0 : isS r0) (hs : w_X4_wholeLength r0 M Q) : MW E iX4_wholeLength 2 0 0 false [.ref r0] σC 46 M (qI σC 46 Q) := by
  refine mw_intro (ls := [(0, .ref r0)]) rfl (by decide +kernel) rfl rfl (Nat.le_of_ble_eq_true rfl) ?_
  have hQ : ∀ x M, Q x M → (qI σC 46 Q) (some (.int x)) σC 46 M := fun _ _ h => ⟨_, rfl, rfl, rfl, h⟩
  generalize (qI σC 46 Q) = Qf at hQ ⊢
  unfold w_X4_wholeLength at hs
  refine wp_iconst (v := (nI 0)) dX4_wholeLength_0 (by decide) ?_
  refine wp_istore_n (ls' := [(0, .ref r0), (1, .int (nI 0))]) [1, 0] dX4_wholeLength_1 rfl (by decide) ?_
  refine wp_iconst (v := (nI 0)) dX4_wholeLength_2 (by decide) ?_
  refine wp_istore_n (ls' := [(0, .ref r0), (1, .int (nI 0)), (2, .int (nI 0))]) [1, 2, 0] dX4_wholeLength_3 rfl (by decide) ?_
  refine wp_sub (ls' := [(0, .ref r0), (1, .int (nI 0)), (2, .int (nI 0))]) [0, 1, 2] rfl ?_
  refine lp_X4_wholeLength_4 h0 (K := fun y6 y7 M8 => Q y6 M8) (fun y6 y7 M8 hs => ?_) FU _ _ _ hs
  refine wp_iload_n 0 dX4_wholeLength_26 rfl ?_
  exact wp_ireturn rfl rfl dX4_wholeLength_27 (hQ _ _ hs)
abbrev iX4_degrees : MI := (cX4_degrees, 3, some .int, RX4, yX4_degrees, wsX4_degrees)
theorem hy_X4_degrees : yX4_degrees.cls = RX4 ∧ yX4_degrees.cls ≠ "java/lang/invoke/MethodHandle" ∧ yX4_degrees.cls ≠ "java/lang/invoke/VarHandle" ∧ (parseMethodDescriptor yX4_degrees.desc).map (fun d => d.parameters.length) = some 1 := by decide +kernel
def w_X4_degrees (r0 : Nat) (a : Int32) (M : Nat → Nat → Int32) (Q : Int32 → (Nat → Nat → Int32) → Prop) : Prop := w_X4_settingAt r0 (nI 3) M (fun v2 M1 => w_X4_lengthAt r0 (a + (nI 1)) M1 (fun v4 M3 => ∀ y5 : Int32, y5 = (v2 - (v4 - (nI 1))) → ∀ y6 : Int32, y6 = (if (nI 0) < y5 then y5 else (nI 0)) → Q ((nI 90) + y6) M3))
set_option maxHeartbeats 4000000 in
set_option maxRecDepth 100000 in
theorem mw_X4_degrees {E : EN} {r0 : Nat} {a : Int32} {M : Nat → Nat → Int32} {Q : Int32 → (Nat → Nat → Int32) → Prop} (h0 : isS r0) (hs : w_X4_degrees r0 a M Q) : MW E iX4_degrees 2 0 0 false [.ref r0, .int a] σC 46 M (qI σC 46 Q) := by
  refine mw_intro (ls := [(0, .ref r0), (1, .int a)]) rfl (by decide +kernel) rfl rfl (Nat.le_of_ble_eq_true rfl) ?_
  have hQ : ∀ x M, Q x M → (qI σC 46 Q) (some (.int x)) σC 46 M := fun _ _ h => ⟨_, rfl, rfl, rfl, h⟩
  generalize (qI σC 46 Q) = Qf at hQ ⊢
  unfold w_X4_degrees at hs
  refine wp_aload_n 0 dX4_degrees_0 rfl ?_
  refine wp_iconst (v := (nI 3)) dX4_degrees_1 (by decide) ?_
  refine wp_cVi (As := [.int (nI 3)]) (st := []) (mw_X4_settingAt h0 hs) gX4_degrees_X4_settingAt rfl hy_X4_settingAt rfl (σ_isS h0) (lt_isS h0) rfl (by decide) (by decide) (Nat.le_of_ble_eq_true rfl) rfl dX4_degrees_2 (fun v2 M1 hs => ?_)
  refine wp_aload_n 0 dX4_degrees_5 rfl ?_
  refine wp_iload_n 1 dX4_degrees_6 rfl ?_
  refine wp_iconst (v := (nI 1)) dX4_degrees_7 (by decide) ?_
  refine wp_iadd dX4_degrees_8 ?_
  refine wp_cVi (As := [.int (a + (nI 1))]) (st := [.int v2]) (mw_X4_lengthAt h0 hs) gX4_degrees_X4_lengthAt rfl hy_X4_lengthAt rfl (σ_isS h0) (lt_isS h0) rfl (by decide) (by decide) (Nat.le_of_ble_eq_true rfl) rfl dX4_degrees_9 (fun v4 M3 hs => ?_)
  refine wp_iconst (v := (nI 1)) dX4_degrees_12 (by decide) ?_
  refine wp_isub dX4_degrees_13 ?_
  refine wp_isub dX4_degrees_14 ?_
  refine wp_topi (fun y5 ey5 => ?_)
  have hs := hs y5 ey5
  refine wp_istore_n (ls' := [(0, .ref r0), (1, .int a), (2, .int y5)]) [1, 2, 0] dX4_degrees_15 rfl (by decide) ?_
  refine wp_bipush (v := (nI 90)) dX4_degrees_16 (by decide) ?_
  refine wp_iconst (v := (nI 0)) dX4_degrees_18 (by decide) ?_
  refine wp_iload_n 2 dX4_degrees_19 rfl ?_
  refine wp_mmax (by decide +kernel) (by decide +kernel) (by decide +kernel) (by decide +kernel) (by decide) (Nat.le_of_ble_eq_true rfl) dX4_degrees_20 ?_
  refine wp_topi (fun y6 ey6 => ?_)
  have hs := hs y6 ey6
  refine wp_iadd dX4_degrees_23 ?_
  exact wp_ireturn rfl rfl dX4_degrees_24 (hQ _ _ hs)
