abbrev iX1_waysFrom : MI := (cX1_waysFrom, 2, some .int, RX1, yX1_waysFrom, wsX1_waysFrom)
theorem hy_X1_waysFrom : yX1_waysFrom.cls = RX1 ∧ yX1_waysFrom.cls ≠ "java/lang/invoke/MethodHandle" ∧ yX1_waysFrom.cls ≠ "java/lang/invoke/VarHandle" ∧ (parseMethodDescriptor yX1_waysFrom.desc).map (fun d => d.parameters.length) = some 1 := by decide +kernel
theorem in_X1_waysFrom_X1 : ∀ w ∈ u_ws RX1 TX1 6, w ∈ wsX1_waysFrom := by decide +kernel
theorem fl_X1_waysFrom_29 : Cond.fieldLink RX1 29 (TX1 3).1 (TX1 3).2.1 (TX1 3).2.2.1 ∈ wsX1_waysFrom := by decide +kernel
def w_X1_waysFrom (a : Int32) (M : Nat → Nat → Int32) (Q : Int32 → (Nat → Nat → Int32) → Prop) : Prop := ((a < 0 → Q (nI 0) M) ∧ (¬ a < 0 → (((nI 128) ≤ a → Q (nI 0) M) ∧ (¬ (nI 128) ≤ a → (vp_in a 128 ∧ Q (M 43 a.toNatClampNeg) M)))))
set_option maxHeartbeats 4000000 in
set_option maxRecDepth 100000 in
theorem mw_X1_waysFrom {E : EN} {a : Int32} {M : Nat → Nat → Int32} {Q : Int32 → (Nat → Nat → Int32) → Prop} (hs : w_X1_waysFrom a M Q) : MW E iX1_waysFrom 1 0 0 false [.ref 31, .int a] σC 46 M (qI σC 46 Q) := by
  refine mw_intro (ls := [(0, .ref 31), (1, .int a)]) rfl (by decide +kernel) rfl rfl (Nat.le_of_ble_eq_true rfl) ?_
  have hQ : ∀ x M, Q x M → (qI σC 46 Q) (some (.int x)) σC 46 M := fun _ _ h => ⟨_, rfl, rfl, rfl, h⟩
  generalize (qI σC 46 Q) = Qf at hQ ⊢
  unfold w_X1_waysFrom at hs
  refine wp_iload_n 1 dX1_waysFrom_0 rfl ?_
  refine wp_if_lt (tgt := 22) dX1_waysFrom_1 (by decide) (fun c1 => ?_) (fun c1 => ?_)
  · have hs := hs.1 c1
    refine wp_iconst (v := (nI 0)) dX1_waysFrom_22 (by decide) ?_
    exact wp_ireturn rfl rfl dX1_waysFrom_23 (hQ _ _ hs)
  · have hs := hs.2 c1
    refine wp_iload_n 1 dX1_waysFrom_4 rfl ?_
    refine wp_aload_n 0 dX1_waysFrom_5 rfl ?_
    refine wp_get (v := .ref 43) dX1_waysFrom_6 rfl (by decide) rfl in_X1_waysFrom_X1 3 (by decide) fl_X1_waysFrom_29 rfl rfl ?_
    refine wp_alen (v := nI 128) rfl (by decide) (by decide) (by decide) dX1_waysFrom_9 ?_
    refine wp_icmp_ge (tgt := 22) dX1_waysFrom_10 (by decide) (fun c2 => ?_) (fun c2 => ?_)
    · have hs := hs.1 c2
      refine wp_iconst (v := (nI 0)) dX1_waysFrom_22 (by decide) ?_
      exact wp_ireturn rfl rfl dX1_waysFrom_23 (hQ _ _ hs)
    · have hs := hs.2 c2
      refine wp_aload_n 0 dX1_waysFrom_13 rfl ?_
      refine wp_get (v := .ref 43) dX1_waysFrom_14 rfl (by decide) rfl in_X1_waysFrom_X1 3 (by decide) fl_X1_waysFrom_29 rfl rfl ?_
      refine wp_iload_n 1 dX1_waysFrom_17 rfl ?_
      have hv := hs.1
      have hs := hs.2
      refine wp_iald rfl (by decide) hv dX1_waysFrom_18 ?_
      refine wp_goto (tgt := 23) dX1_waysFrom_19 (by decide) ?_
      exact wp_ireturn rfl rfl dX1_waysFrom_23 (hQ _ _ hs)
abbrev iX2_inLower : MI := (cX2_inLower, 1, some .int, RX2, yX2_inLower, wsX2_inLower)
theorem hy_X2_inLower : yX2_inLower.cls = RX2 ∧ yX2_inLower.cls ≠ "java/lang/invoke/MethodHandle" ∧ yX2_inLower.cls ≠ "java/lang/invoke/VarHandle" ∧ (parseMethodDescriptor yX2_inLower.desc).map (fun d => d.parameters.length) = some 0 := by decide +kernel
theorem in_X2_inLower_X2 : ∀ w ∈ u_ws RX2 TX2 1, w ∈ wsX2_inLower := by decide +kernel
theorem fl_X2_inLower_12 : Cond.fieldLink RX2 12 (TX2 0).1 (TX2 0).2.1 (TX2 0).2.2.1 ∈ wsX2_inLower := by decide +kernel
def w_X2_inLower (r0 : Nat) (M : Nat → Nat → Int32) (Q : Int32 → (Nat → Nat → Int32) → Prop) : Prop := w_X3_flangesIn (r0 + 1) (nI 1) (nI 3) (-3 : Int32) (-1 : Int32) M (fun v2 M1 => Q v2 M1)
set_option maxHeartbeats 4000000 in
set_option maxRecDepth 100000 in
theorem mw_X2_inLower {E : EN} {r0 : Nat} {M : Nat → Nat → Int32} {Q : Int32 → (Nat → Nat → Int32) → Prop} (h0 : isP r0) (hs : w_X2_inLower r0 M Q) : MW E iX2_inLower 2 0 0 false [.ref r0] σC 46 M (qI σC 46 Q) := by
  refine mw_intro (ls := [(0, .ref r0)]) rfl (by decide +kernel) rfl rfl (Nat.le_of_ble_eq_true rfl) ?_
  have hQ : ∀ x M, Q x M → (qI σC 46 Q) (some (.int x)) σC 46 M := fun _ _ h => ⟨_, rfl, rfl, rfl, h⟩
  generalize (qI σC 46 Q) = Qf at hQ ⊢
  unfold w_X2_inLower at hs
  refine wp_aload_n 0 dX2_inLower_0 rfl ?_
  refine wp_get (v := .ref (r0 + 1)) dX2_inLower_1 (σ_isP h0) (lt_isP h0) rfl in_X2_inLower_X2 0 (by decide) fl_X2_inLower_12 rfl rfl ?_
  refine wp_iconst (v := (nI 1)) dX2_inLower_4 (by decide) ?_
  refine wp_iconst (v := (nI 3)) dX2_inLower_5 (by decide) ?_
  refine wp_bipush (v := (-3 : Int32)) dX2_inLower_6 (by decide) ?_
  refine wp_iconst (v := (-1 : Int32)) dX2_inLower_8 (by decide) ?_
  refine wp_cVi (As := [.int (nI 1), .int (nI 3), .int (-3 : Int32), .int (-1 : Int32)]) (st := []) (mw_X3_flangesIn (isH_of h0) hs) gX2_inLower_X3_flangesIn rfl hy_X3_flangesIn rfl (σ_isH (isH_of h0)) (lt_isH (isH_of h0)) rfl (by decide) (by decide) (Nat.le_of_ble_eq_true rfl) rfl dX2_inLower_9 (fun v2 M1 hs => ?_)
  exact wp_ireturn rfl rfl dX2_inLower_12 (hQ _ _ hs)
abbrev iX2_inUpper : MI := (cX2_inUpper, 6, some .int, RX2, yX2_inUpper, wsX2_inUpper)
theorem hy_X2_inUpper : yX2_inUpper.cls = RX2 ∧ yX2_inUpper.cls ≠ "java/lang/invoke/MethodHandle" ∧ yX2_inUpper.cls ≠ "java/lang/invoke/VarHandle" ∧ (parseMethodDescriptor yX2_inUpper.desc).map (fun d => d.parameters.length) = some 1 := by decide +kernel
theorem in_X2_inUpper_X2 : ∀ w ∈ u_ws RX2 TX2 1, w ∈ wsX2_inUpper := by decide +kernel
theorem fl_X2_inUpper_12 : Cond.fieldLink RX2 12 (TX2 0).1 (TX2 0).2.1 (TX2 0).2.2.1 ∈ wsX2_inUpper := by decide +kernel
def w_X2_inUpper (r0 : Nat) (r1 : Nat) (M : Nat → Nat → Int32) (Q : Int32 → (Nat → Nat → Int32) → Prop) : Prop := w_X4_settingAt r1 (nI 0) M (fun v2 M1 => w_X4_settingAt r1 (nI 1) M1 (fun v4 M3 => ∀ y5 : Int32, y5 = (if v2 < (nI 2) then v2 else (nI 2)) → w_X3_flangesIn (r0 + 1) (nI 1) (nI 1) (nI 1) y5 M3 (fun v7 M6 => w_X3_flangesIn (r0 + 1) (nI 1) ((nI 1) + v4) (nI 3) v2 M6 (fun v9 M8 => Q (v7 ||| v9) M8))))
set_option maxHeartbeats 4000000 in
set_option maxRecDepth 100000 in
theorem mw_X2_inUpper {E : EN} {r0 : Nat} {r1 : Nat} {M : Nat → Nat → Int32} {Q : Int32 → (Nat → Nat → Int32) → Prop} (h0 : isP r0) (h1 : isS r1) (hs : w_X2_inUpper r0 r1 M Q) : MW E iX2_inUpper 2 0 0 false [.ref r0, .ref r1] σC 46 M (qI σC 46 Q) := by
  refine mw_intro (ls := [(0, .ref r0), (1, .ref r1)]) rfl (by decide +kernel) rfl rfl (Nat.le_of_ble_eq_true rfl) ?_
  have hQ : ∀ x M, Q x M → (qI σC 46 Q) (some (.int x)) σC 46 M := fun _ _ h => ⟨_, rfl, rfl, rfl, h⟩
  generalize (qI σC 46 Q) = Qf at hQ ⊢
  unfold w_X2_inUpper at hs
  refine wp_aload_n 1 dX2_inUpper_0 rfl ?_
  refine wp_iconst (v := (nI 0)) dX2_inUpper_1 (by decide) ?_
  refine wp_cVi (As := [.int (nI 0)]) (st := []) (mw_X4_settingAt h1 hs) gX2_inUpper_X4_settingAt rfl hy_X4_settingAt rfl (σ_isS h1) (lt_isS h1) rfl (by decide) (by decide) (Nat.le_of_ble_eq_true rfl) rfl dX2_inUpper_2 (fun v2 M1 hs => ?_)
  refine wp_istore_n (ls' := [(0, .ref r0), (1, .ref r1), (2, .int v2)]) [1, 2, 0] dX2_inUpper_5 rfl (by decide) ?_
  refine wp_aload_n 1 dX2_inUpper_6 rfl ?_
  refine wp_iconst (v := (nI 1)) dX2_inUpper_7 (by decide) ?_
  refine wp_cVi (As := [.int (nI 1)]) (st := []) (mw_X4_settingAt h1 hs) gX2_inUpper_X4_settingAt rfl hy_X4_settingAt rfl (σ_isS h1) (lt_isS h1) rfl (by decide) (by decide) (Nat.le_of_ble_eq_true rfl) rfl dX2_inUpper_8 (fun v4 M3 hs => ?_)
  refine wp_istore_n (ls' := [(0, .ref r0), (1, .ref r1), (2, .int v2), (3, .int v4)]) [1, 2, 3, 0] dX2_inUpper_11 rfl (by decide) ?_
  refine wp_aload_n 0 dX2_inUpper_12 rfl ?_
  refine wp_get (v := .ref (r0 + 1)) dX2_inUpper_13 (σ_isP h0) (lt_isP h0) rfl in_X2_inUpper_X2 0 (by decide) fl_X2_inUpper_12 rfl rfl ?_
  refine wp_iconst (v := (nI 1)) dX2_inUpper_16 (by decide) ?_
  refine wp_iconst (v := (nI 1)) dX2_inUpper_17 (by decide) ?_
  refine wp_iconst (v := (nI 1)) dX2_inUpper_18 (by decide) ?_
  refine wp_iconst (v := (nI 2)) dX2_inUpper_19 (by decide) ?_
  refine wp_iload_n 2 dX2_inUpper_20 rfl ?_
  refine wp_mmin (by decide +kernel) (by decide +kernel) (by decide +kernel) (by decide +kernel) (by decide) (Nat.le_of_ble_eq_true rfl) dX2_inUpper_21 ?_
  refine wp_topi (fun y5 ey5 => ?_)
  have hs := hs y5 ey5
  refine wp_cVi (As := [.int (nI 1), .int (nI 1), .int (nI 1), .int y5]) (st := []) (mw_X3_flangesIn (isH_of h0) hs) gX2_inUpper_X3_flangesIn rfl hy_X3_flangesIn rfl (σ_isH (isH_of h0)) (lt_isH (isH_of h0)) rfl (by decide) (by decide) (Nat.le_of_ble_eq_true rfl) rfl dX2_inUpper_24 (fun v7 M6 hs => ?_)
  refine wp_istore (ls' := [(0, .ref r0), (1, .ref r1), (2, .int v2), (3, .int v4), (4, .int v7)]) [1, 2, 3, 4, 0] dX2_inUpper_27 rfl (by decide) ?_
  refine wp_aload_n 0 dX2_inUpper_29 rfl ?_
  refine wp_get (v := .ref (r0 + 1)) dX2_inUpper_30 (σ_isP h0) (lt_isP h0) rfl in_X2_inUpper_X2 0 (by decide) fl_X2_inUpper_12 rfl rfl ?_
  refine wp_iconst (v := (nI 1)) dX2_inUpper_33 (by decide) ?_
  refine wp_iconst (v := (nI 1)) dX2_inUpper_34 (by decide) ?_
  refine wp_iload_n 3 dX2_inUpper_35 rfl ?_
  refine wp_iadd dX2_inUpper_36 ?_
  refine wp_iconst (v := (nI 3)) dX2_inUpper_37 (by decide) ?_
  refine wp_iload_n 2 dX2_inUpper_38 rfl ?_
  refine wp_cVi (As := [.int (nI 1), .int ((nI 1) + v4), .int (nI 3), .int v2]) (st := []) (mw_X3_flangesIn (isH_of h0) hs) gX2_inUpper_X3_flangesIn rfl hy_X3_flangesIn rfl (σ_isH (isH_of h0)) (lt_isH (isH_of h0)) rfl (by decide) (by decide) (Nat.le_of_ble_eq_true rfl) rfl dX2_inUpper_39 (fun v9 M8 hs => ?_)
  refine wp_istore (ls' := [(0, .ref r0), (1, .ref r1), (2, .int v2), (3, .int v4), (4, .int v7), (5, .int v9)]) [1, 2, 3, 4, 5, 0] dX2_inUpper_42 rfl (by decide) ?_
  refine wp_iload 4 dX2_inUpper_44 rfl ?_
  refine wp_iload 5 dX2_inUpper_46 rfl ?_
  refine wp_ior dX2_inUpper_48 ?_
  exact wp_ireturn rfl rfl dX2_inUpper_49 (hQ _ _ hs)
abbrev iX2_reason : MI := (cX2_reason, 7, some .int, RX2, yX2_reason, wsX2_reason)
theorem hy_X2_reason : yX2_reason.cls = RX2 ∧ yX2_reason.cls ≠ "java/lang/invoke/MethodHandle" ∧ yX2_reason.cls ≠ "java/lang/invoke/VarHandle" ∧ (parseMethodDescriptor yX2_reason.desc).map (fun d => d.parameters.length) = some 4 := by decide +kernel
theorem in_X2_reason_X2 : ∀ w ∈ u_ws RX2 TX2 1, w ∈ wsX2_reason := by decide +kernel
theorem fl_X2_reason_12 : Cond.fieldLink RX2 12 (TX2 0).1 (TX2 0).2.1 (TX2 0).2.2.1 ∈ wsX2_reason := by decide +kernel
def w_X2_reason (r0 : Nat) (r1 : Nat) (b : Int32) (c : Int32) (d : Int32) (M : Nat → Nat → Int32) (Q : Int32 → (Nat → Nat → Int32) → Prop) : Prop := ((¬ ((c >>> (b &&& 31)) &&& (nI 1)) = (nI 1) → w_X4_isUp r1 b M (fun v3 M2 => ((¬ v3 = d → w_X4_clampedLength r1 b c M2 (fun v6 M5 => w_X4_settingAt r1 (nI 2) M5 (fun v8 M7 => ((v8 ≤ v6 → w_X3_layFlat (r0 + 1) r1 b c d M7 (fun M10 => w_X2_inUpper r0 r1 M10 (fun v12 M11 => ((v12 = 0 → w_X2_inLower r0 M11 (fun v15 M14 => ((v15 = 0 → w_X3_swingUp (r0 + 1) b M14 (fun M17 => ((¬ (nI 0) = 0 → Q (nI 4) M17) ∧ ((nI 0) = 0 → w_X2_inUpper r0 r1 M17 (fun v20 M19 => ((v20 = 0 → ((¬ (nI 0) = 0 → Q (nI 5) M19) ∧ ((nI 0) = 0 → w_X2_inLower r0 M19 (fun v24 M23 => ((v24 = 0 → w_X3_strikesItself (r0 + 1) M23 (fun v27 M26 => ((v27 = 0 → Q (nI 0) M26) ∧ (¬ v27 = 0 → Q (nI 6) M26)))) ∧ (¬ v24 = 0 → Q (nI 5) M23)))))) ∧ (¬ v20 = 0 → Q (nI 4) M19))))))) ∧ (¬ v15 = 0 → w_X3_swingUp (r0 + 1) b M14 (fun M29 => ((¬ (nI 0) = 0 → Q (nI 4) M29) ∧ ((nI 0) = 0 → w_X2_inUpper r0 r1 M29 (fun v32 M31 => ((v32 = 0 → ((¬ (nI 1) = 0 → Q (nI 5) M31) ∧ ((nI 1) = 0 → w_X2_inLower r0 M31 (fun v36 M35 => ((v36 = 0 → w_X3_strikesItself (r0 + 1) M35 (fun v39 M38 => ((v39 = 0 → Q (nI 0) M38) ∧ (¬ v39 = 0 → Q (nI 6) M38)))) ∧ (¬ v36 = 0 → Q (nI 5) M35)))))) ∧ (¬ v32 = 0 → Q (nI 4) M31)))))))))) ∧ (¬ v12 = 0 → w_X2_inLower r0 M11 (fun v42 M41 => ((v42 = 0 → w_X3_swingUp (r0 + 1) b M41 (fun M44 => ((¬ (nI 1) = 0 → Q (nI 4) M44) ∧ ((nI 1) = 0 → w_X2_inUpper r0 r1 M44 (fun v47 M46 => ((v47 = 0 → ((¬ (nI 0) = 0 → Q (nI 5) M46) ∧ ((nI 0) = 0 → w_X2_inLower r0 M46 (fun v51 M50 => ((v51 = 0 → w_X3_strikesItself (r0 + 1) M50 (fun v54 M53 => ((v54 = 0 → Q (nI 0) M53) ∧ (¬ v54 = 0 → Q (nI 6) M53)))) ∧ (¬ v51 = 0 → Q (nI 5) M50)))))) ∧ (¬ v47 = 0 → Q (nI 4) M46))))))) ∧ (¬ v42 = 0 → w_X3_swingUp (r0 + 1) b M41 (fun M56 => ((¬ (nI 1) = 0 → Q (nI 4) M56) ∧ ((nI 1) = 0 → w_X2_inUpper r0 r1 M56 (fun v59 M58 => ((v59 = 0 → ((¬ (nI 1) = 0 → Q (nI 5) M58) ∧ ((nI 1) = 0 → w_X2_inLower r0 M58 (fun v63 M62 => ((v63 = 0 → w_X3_strikesItself (r0 + 1) M62 (fun v66 M65 => ((v66 = 0 → Q (nI 0) M65) ∧ (¬ v66 = 0 → Q (nI 6) M65)))) ∧ (¬ v63 = 0 → Q (nI 5) M62)))))) ∧ (¬ v59 = 0 → Q (nI 4) M58)))))))))))))) ∧ (¬ v8 ≤ v6 → Q (nI 3) M7))))) ∧ (v3 = d → Q (nI 2) M2)))) ∧ (((c >>> (b &&& 31)) &&& (nI 1)) = (nI 1) → Q (nI 1) M))
set_option maxHeartbeats 4000000 in
set_option maxRecDepth 100000 in
theorem mw_X2_reason {E : EN} {r0 : Nat} {r1 : Nat} {b : Int32} {c : Int32} {d : Int32} {M : Nat → Nat → Int32} {Q : Int32 → (Nat → Nat → Int32) → Prop} (h0 : isP r0) (h1 : isS r1) (hs : w_X2_reason r0 r1 b c d M Q) : MW E iX2_reason 3 0 0 false [.ref r0, .ref r1, .int b, .int c, .int d] σC 46 M (qI σC 46 Q) := by
  refine mw_intro (ls := [(0, .ref r0), (1, .ref r1), (2, .int b), (3, .int c), (4, .int d)]) rfl (by decide +kernel) rfl rfl (Nat.le_of_ble_eq_true rfl) ?_
  have hQ : ∀ x M, Q x M → (qI σC 46 Q) (some (.int x)) σC 46 M := fun _ _ h => ⟨_, rfl, rfl, rfl, h⟩
  generalize (qI σC 46 Q) = Qf at hQ ⊢
  unfold w_X2_reason at hs
  refine wp_iload_n 3 dX2_reason_0 rfl ?_
  refine wp_iload_n 2 dX2_reason_1 rfl ?_
  refine wp_ishr dX2_reason_2 ?_
  refine wp_iconst (v := (nI 1)) dX2_reason_3 (by decide) ?_
  refine wp_iand dX2_reason_4 ?_
  refine wp_iconst (v := (nI 1)) dX2_reason_5 (by decide) ?_
  refine wp_icmp_ne (tgt := 11) dX2_reason_6 (by decide) (fun c1 => ?_) (fun c1 => ?_)
  · have hs := hs.1 c1
    refine wp_aload_n 1 dX2_reason_11 rfl ?_
    refine wp_iload_n 2 dX2_reason_12 rfl ?_
    refine wp_cVi (As := [.int b]) (st := []) (mw_X4_isUp h1 hs) gX2_reason_X4_isUp rfl hy_X4_isUp rfl (σ_isS h1) (lt_isS h1) rfl (by decide) (by decide) (Nat.le_of_ble_eq_true rfl) rfl dX2_reason_13 (fun v3 M2 hs => ?_)
    refine wp_iload 4 dX2_reason_16 rfl ?_
    refine wp_icmp_ne (tgt := 23) dX2_reason_18 (by decide) (fun c4 => ?_) (fun c4 => ?_)
    · have hs := hs.1 c4
      refine wp_aload_n 1 dX2_reason_23 rfl ?_
      refine wp_iload_n 2 dX2_reason_24 rfl ?_
      refine wp_iload_n 3 dX2_reason_25 rfl ?_
      refine wp_cVi (As := [.int b, .int c]) (st := []) (mw_X4_clampedLength h1 hs) gX2_reason_X4_clampedLength rfl hy_X4_clampedLength rfl (σ_isS h1) (lt_isS h1) rfl (by decide) (by decide) (Nat.le_of_ble_eq_true rfl) rfl dX2_reason_26 (fun v6 M5 hs => ?_)
      refine wp_aload_n 1 dX2_reason_29 rfl ?_
      refine wp_iconst (v := (nI 2)) dX2_reason_30 (by decide) ?_
      refine wp_cVi (As := [.int (nI 2)]) (st := [.int v6]) (mw_X4_settingAt h1 hs) gX2_reason_X4_settingAt rfl hy_X4_settingAt rfl (σ_isS h1) (lt_isS h1) rfl (by decide) (by decide) (Nat.le_of_ble_eq_true rfl) rfl dX2_reason_31 (fun v8 M7 hs => ?_)
      refine wp_icmp_ge (tgt := 39) dX2_reason_34 (by decide) (fun c9 => ?_) (fun c9 => ?_)
      · have hs := hs.1 c9
        refine wp_aload_n 0 dX2_reason_39 rfl ?_
        refine wp_get (v := .ref (r0 + 1)) dX2_reason_40 (σ_isP h0) (lt_isP h0) rfl in_X2_reason_X2 0 (by decide) fl_X2_reason_12 rfl rfl ?_
        refine wp_aload_n 1 dX2_reason_43 rfl ?_
        refine wp_iload_n 2 dX2_reason_44 rfl ?_
        refine wp_iload_n 3 dX2_reason_45 rfl ?_
        refine wp_iload 4 dX2_reason_46 rfl ?_
        refine wp_cVv (As := [.ref r1, .int b, .int c, .int d]) (st := []) (mw_X3_layFlat (isH_of h0) h1 hs) gX2_reason_X3_layFlat rfl hy_X3_layFlat rfl (σ_isH (isH_of h0)) (lt_isH (isH_of h0)) rfl (by decide) (by decide) (Nat.le_of_ble_eq_true rfl) rfl dX2_reason_48 (fun  M10 hs => ?_)
        refine wp_aload_n 0 dX2_reason_51 rfl ?_
        refine wp_aload_n 1 dX2_reason_52 rfl ?_
        refine wp_cVi (As := [.ref r1]) (st := []) (mw_X2_inUpper h0 h1 hs) gX2_reason_X2_inUpper rfl hy_X2_inUpper rfl (σ_isP h0) (lt_isP h0) rfl (by decide) (by decide) (Nat.le_of_ble_eq_true rfl) rfl dX2_reason_53 (fun v12 M11 hs => ?_)
        refine wp_if_eq (tgt := 63) dX2_reason_56 (by decide) (fun c13 => ?_) (fun c13 => ?_)
        · have hs := hs.1 c13
          refine wp_iconst (v := (nI 0)) dX2_reason_63 (by decide) ?_
          refine wp_istore (ls' := [(0, .ref r0), (1, .ref r1), (2, .int b), (3, .int c), (4, .int d), (5, .int (nI 0))]) [1, 2, 3, 4, 5, 0] dX2_reason_64 rfl (by decide) ?_
          refine wp_aload_n 0 dX2_reason_66 rfl ?_
          refine wp_cVi (As := []) (st := []) (mw_X2_inLower h0 hs) gX2_reason_X2_inLower rfl hy_X2_inLower rfl (σ_isP h0) (lt_isP h0) rfl (by decide) (by decide) (Nat.le_of_ble_eq_true rfl) rfl dX2_reason_67 (fun v15 M14 hs => ?_)
          refine wp_if_eq (tgt := 77) dX2_reason_70 (by decide) (fun c16 => ?_) (fun c16 => ?_)
          · have hs := hs.1 c16
            refine wp_iconst (v := (nI 0)) dX2_reason_77 (by decide) ?_
            refine wp_istore (ls' := [(0, .ref r0), (1, .ref r1), (2, .int b), (3, .int c), (4, .int d), (5, .int (nI 0)), (6, .int (nI 0))]) [1, 2, 3, 4, 5, 6, 0] dX2_reason_78 rfl (by decide) ?_
            refine wp_aload_n 0 dX2_reason_80 rfl ?_
            refine wp_get (v := .ref (r0 + 1)) dX2_reason_81 (σ_isP h0) (lt_isP h0) rfl in_X2_reason_X2 0 (by decide) fl_X2_reason_12 rfl rfl ?_
            refine wp_iload_n 2 dX2_reason_84 rfl ?_
            refine wp_cVv (As := [.int b]) (st := []) (mw_X3_swingUp (isH_of h0) hs) gX2_reason_X3_swingUp rfl hy_X3_swingUp rfl (σ_isH (isH_of h0)) (lt_isH (isH_of h0)) rfl (by decide) (by decide) (Nat.le_of_ble_eq_true rfl) rfl dX2_reason_85 (fun  M17 hs => ?_)
            refine wp_iload 5 dX2_reason_88 rfl ?_
            refine wp_if_ne (tgt := 101) dX2_reason_90 (by decide) (fun c18 => ?_) (fun c18 => ?_)
            · have hs := hs.1 c18
              refine wp_iconst (v := (nI 4)) dX2_reason_101 (by decide) ?_
              exact wp_ireturn rfl rfl dX2_reason_102 (hQ _ _ hs)
            · have hs := hs.2 c18
              refine wp_aload_n 0 dX2_reason_93 rfl ?_
              refine wp_aload_n 1 dX2_reason_94 rfl ?_
              refine wp_cVi (As := [.ref r1]) (st := []) (mw_X2_inUpper h0 h1 hs) gX2_reason_X2_inUpper rfl hy_X2_inUpper rfl (σ_isP h0) (lt_isP h0) rfl (by decide) (by decide) (Nat.le_of_ble_eq_true rfl) rfl dX2_reason_95 (fun v20 M19 hs => ?_)
              refine wp_if_eq (tgt := 103) dX2_reason_98 (by decide) (fun c21 => ?_) (fun c21 => ?_)
              · have hs := hs.1 c21
                refine wp_iload 6 dX2_reason_103 rfl ?_
                refine wp_if_ne (tgt := 115) dX2_reason_105 (by decide) (fun c22 => ?_) (fun c22 => ?_)
                · have hs := hs.1 c22
                  refine wp_iconst (v := (nI 5)) dX2_reason_115 (by decide) ?_
                  exact wp_ireturn rfl rfl dX2_reason_116 (hQ _ _ hs)
                · have hs := hs.2 c22
                  refine wp_aload_n 0 dX2_reason_108 rfl ?_
                  refine wp_cVi (As := []) (st := []) (mw_X2_inLower h0 hs) gX2_reason_X2_inLower rfl hy_X2_inLower rfl (σ_isP h0) (lt_isP h0) rfl (by decide) (by decide) (Nat.le_of_ble_eq_true rfl) rfl dX2_reason_109 (fun v24 M23 hs => ?_)
                  refine wp_if_eq (tgt := 117) dX2_reason_112 (by decide) (fun c25 => ?_) (fun c25 => ?_)
                  · have hs := hs.1 c25
                    refine wp_aload_n 0 dX2_reason_117 rfl ?_
                    refine wp_get (v := .ref (r0 + 1)) dX2_reason_118 (σ_isP h0) (lt_isP h0) rfl in_X2_reason_X2 0 (by decide) fl_X2_reason_12 rfl rfl ?_
                    refine wp_cVi (As := []) (st := []) (mw_X3_strikesItself (isH_of h0) hs) gX2_reason_X3_strikesItself rfl hy_X3_strikesItself rfl (σ_isH (isH_of h0)) (lt_isH (isH_of h0)) rfl (by decide) (by decide) (Nat.le_of_ble_eq_true rfl) rfl dX2_reason_121 (fun v27 M26 hs => ?_)
                    refine wp_if_eq (tgt := 132) dX2_reason_124 (by decide) (fun c28 => ?_) (fun c28 => ?_)
                    · have hs := hs.1 c28
                      refine wp_iconst (v := (nI 0)) dX2_reason_132 (by decide) ?_
                      exact wp_ireturn rfl rfl dX2_reason_133 (hQ _ _ hs)
                    · have hs := hs.2 c28
                      refine wp_bipush (v := (nI 6)) dX2_reason_127 (by decide) ?_
                      refine wp_goto (tgt := 133) dX2_reason_129 (by decide) ?_
                      exact wp_ireturn rfl rfl dX2_reason_133 (hQ _ _ hs)
                  · have hs := hs.2 c25
                    refine wp_iconst (v := (nI 5)) dX2_reason_115 (by decide) ?_
                    exact wp_ireturn rfl rfl dX2_reason_116 (hQ _ _ hs)
              · have hs := hs.2 c21
                refine wp_iconst (v := (nI 4)) dX2_reason_101 (by decide) ?_
                exact wp_ireturn rfl rfl dX2_reason_102 (hQ _ _ hs)
          · have hs := hs.2 c16
            refine wp_iconst (v := (nI 1)) dX2_reason_73 (by decide) ?_
            refine wp_goto (tgt := 78) dX2_reason_74 (by decide) ?_
            refine wp_istore (ls' := [(0, .ref r0), (1, .ref r1), (2, .int b), (3, .int c), (4, .int d), (5, .int (nI 0)), (6, .int (nI 1))]) [1, 2, 3, 4, 5, 6, 0] dX2_reason_78 rfl (by decide) ?_
            refine wp_aload_n 0 dX2_reason_80 rfl ?_
            refine wp_get (v := .ref (r0 + 1)) dX2_reason_81 (σ_isP h0) (lt_isP h0) rfl in_X2_reason_X2 0 (by decide) fl_X2_reason_12 rfl rfl ?_
            refine wp_iload_n 2 dX2_reason_84 rfl ?_
            refine wp_cVv (As := [.int b]) (st := []) (mw_X3_swingUp (isH_of h0) hs) gX2_reason_X3_swingUp rfl hy_X3_swingUp rfl (σ_isH (isH_of h0)) (lt_isH (isH_of h0)) rfl (by decide) (by decide) (Nat.le_of_ble_eq_true rfl) rfl dX2_reason_85 (fun  M29 hs => ?_)
            refine wp_iload 5 dX2_reason_88 rfl ?_
            refine wp_if_ne (tgt := 101) dX2_reason_90 (by decide) (fun c30 => ?_) (fun c30 => ?_)
            · have hs := hs.1 c30
              refine wp_iconst (v := (nI 4)) dX2_reason_101 (by decide) ?_
              exact wp_ireturn rfl rfl dX2_reason_102 (hQ _ _ hs)
            · have hs := hs.2 c30
              refine wp_aload_n 0 dX2_reason_93 rfl ?_
              refine wp_aload_n 1 dX2_reason_94 rfl ?_
              refine wp_cVi (As := [.ref r1]) (st := []) (mw_X2_inUpper h0 h1 hs) gX2_reason_X2_inUpper rfl hy_X2_inUpper rfl (σ_isP h0) (lt_isP h0) rfl (by decide) (by decide) (Nat.le_of_ble_eq_true rfl) rfl dX2_reason_95 (fun v32 M31 hs => ?_)
              refine wp_if_eq (tgt := 103) dX2_reason_98 (by decide) (fun c33 => ?_) (fun c33 => ?_)
              · have hs := hs.1 c33
                refine wp_iload 6 dX2_reason_103 rfl ?_
                refine wp_if_ne (tgt := 115) dX2_reason_105 (by decide) (fun c34 => ?_) (fun c34 => ?_)
                · have hs := hs.1 c34
                  refine wp_iconst (v := (nI 5)) dX2_reason_115 (by decide) ?_
                  exact wp_ireturn rfl rfl dX2_reason_116 (hQ _ _ hs)
                · have hs := hs.2 c34
                  refine wp_aload_n 0 dX2_reason_108 rfl ?_
                  refine wp_cVi (As := []) (st := []) (mw_X2_inLower h0 hs) gX2_reason_X2_inLower rfl hy_X2_inLower rfl (σ_isP h0) (lt_isP h0) rfl (by decide) (by decide) (Nat.le_of_ble_eq_true rfl) rfl dX2_reason_109 (fun v36 M35 hs => ?_)
                  refine wp_if_eq (tgt := 117) dX2_reason_112 (by decide) (fun c37 => ?_) (fun c37 => ?_)
                  · have hs := hs.1 c37
                    refine wp_aload_n 0 dX2_reason_117 rfl ?_
                    refine wp_get (v := .ref (r0 + 1)) dX2_reason_118 (σ_isP h0) (lt_isP h0) rfl in_X2_reason_X2 0 (by decide) fl_X2_reason_12 rfl rfl ?_
                    refine wp_cVi (As := []) (st := []) (mw_X3_strikesItself (isH_of h0) hs) gX2_reason_X3_strikesItself rfl hy_X3_strikesItself rfl (σ_isH (isH_of h0)) (lt_isH (isH_of h0)) rfl (by decide) (by decide) (Nat.le_of_ble_eq_true rfl) rfl dX2_reason_121 (fun v39 M38 hs => ?_)
                    refine wp_if_eq (tgt := 132) dX2_reason_124 (by decide) (fun c40 => ?_) (fun c40 => ?_)
                    · have hs := hs.1 c40
                      refine wp_iconst (v := (nI 0)) dX2_reason_132 (by decide) ?_
                      exact wp_ireturn rfl rfl dX2_reason_133 (hQ _ _ hs)
                    · have hs := hs.2 c40
                      refine wp_bipush (v := (nI 6)) dX2_reason_127 (by decide) ?_
                      refine wp_goto (tgt := 133) dX2_reason_129 (by decide) ?_
                      exact wp_ireturn rfl rfl dX2_reason_133 (hQ _ _ hs)
                  · have hs := hs.2 c37
                    refine wp_iconst (v := (nI 5)) dX2_reason_115 (by decide) ?_
                    exact wp_ireturn rfl rfl dX2_reason_116 (hQ _ _ hs)
              · have hs := hs.2 c33
                refine wp_iconst (v := (nI 4)) dX2_reason_101 (by decide) ?_
                exact wp_ireturn rfl rfl dX2_reason_102 (hQ _ _ hs)
        · have hs := hs.2 c13
          refine wp_iconst (v := (nI 1)) dX2_reason_59 (by decide) ?_
          refine wp_goto (tgt := 64) dX2_reason_60 (by decide) ?_
          refine wp_istore (ls' := [(0, .ref r0), (1, .ref r1), (2, .int b), (3, .int c), (4, .int d), (5, .int (nI 1))]) [1, 2, 3, 4, 5, 0] dX2_reason_64 rfl (by decide) ?_
          refine wp_aload_n 0 dX2_reason_66 rfl ?_
          refine wp_cVi (As := []) (st := []) (mw_X2_inLower h0 hs) gX2_reason_X2_inLower rfl hy_X2_inLower rfl (σ_isP h0) (lt_isP h0) rfl (by decide) (by decide) (Nat.le_of_ble_eq_true rfl) rfl dX2_reason_67 (fun v42 M41 hs => ?_)
          refine wp_if_eq (tgt := 77) dX2_reason_70 (by decide) (fun c43 => ?_) (fun c43 => ?_)
          · have hs := hs.1 c43
            refine wp_iconst (v := (nI 0)) dX2_reason_77 (by decide) ?_
            refine wp_istore (ls' := [(0, .ref r0), (1, .ref r1), (2, .int b), (3, .int c), (4, .int d), (5, .int (nI 1)), (6, .int (nI 0))]) [1, 2, 3, 4, 5, 6, 0] dX2_reason_78 rfl (by decide) ?_
            refine wp_aload_n 0 dX2_reason_80 rfl ?_
            refine wp_get (v := .ref (r0 + 1)) dX2_reason_81 (σ_isP h0) (lt_isP h0) rfl in_X2_reason_X2 0 (by decide) fl_X2_reason_12 rfl rfl ?_
            refine wp_iload_n 2 dX2_reason_84 rfl ?_
            refine wp_cVv (As := [.int b]) (st := []) (mw_X3_swingUp (isH_of h0) hs) gX2_reason_X3_swingUp rfl hy_X3_swingUp rfl (σ_isH (isH_of h0)) (lt_isH (isH_of h0)) rfl (by decide) (by decide) (Nat.le_of_ble_eq_true rfl) rfl dX2_reason_85 (fun  M44 hs => ?_)
            refine wp_iload 5 dX2_reason_88 rfl ?_
            refine wp_if_ne (tgt := 101) dX2_reason_90 (by decide) (fun c45 => ?_) (fun c45 => ?_)
            · have hs := hs.1 c45
              refine wp_iconst (v := (nI 4)) dX2_reason_101 (by decide) ?_
              exact wp_ireturn rfl rfl dX2_reason_102 (hQ _ _ hs)
            · have hs := hs.2 c45
              refine wp_aload_n 0 dX2_reason_93 rfl ?_
              refine wp_aload_n 1 dX2_reason_94 rfl ?_
              refine wp_cVi (As := [.ref r1]) (st := []) (mw_X2_inUpper h0 h1 hs) gX2_reason_X2_inUpper rfl hy_X2_inUpper rfl (σ_isP h0) (lt_isP h0) rfl (by decide) (by decide) (Nat.le_of_ble_eq_true rfl) rfl dX2_reason_95 (fun v47 M46 hs => ?_)
              refine wp_if_eq (tgt := 103) dX2_reason_98 (by decide) (fun c48 => ?_) (fun c48 => ?_)
              · have hs := hs.1 c48
                refine wp_iload 6 dX2_reason_103 rfl ?_
                refine wp_if_ne (tgt := 115) dX2_reason_105 (by decide) (fun c49 => ?_) (fun c49 => ?_)
                · have hs := hs.1 c49
                  refine wp_iconst (v := (nI 5)) dX2_reason_115 (by decide) ?_
                  exact wp_ireturn rfl rfl dX2_reason_116 (hQ _ _ hs)
                · have hs := hs.2 c49
                  refine wp_aload_n 0 dX2_reason_108 rfl ?_
                  refine wp_cVi (As := []) (st := []) (mw_X2_inLower h0 hs) gX2_reason_X2_inLower rfl hy_X2_inLower rfl (σ_isP h0) (lt_isP h0) rfl (by decide) (by decide) (Nat.le_of_ble_eq_true rfl) rfl dX2_reason_109 (fun v51 M50 hs => ?_)
                  refine wp_if_eq (tgt := 117) dX2_reason_112 (by decide) (fun c52 => ?_) (fun c52 => ?_)
                  · have hs := hs.1 c52
                    refine wp_aload_n 0 dX2_reason_117 rfl ?_
                    refine wp_get (v := .ref (r0 + 1)) dX2_reason_118 (σ_isP h0) (lt_isP h0) rfl in_X2_reason_X2 0 (by decide) fl_X2_reason_12 rfl rfl ?_
                    refine wp_cVi (As := []) (st := []) (mw_X3_strikesItself (isH_of h0) hs) gX2_reason_X3_strikesItself rfl hy_X3_strikesItself rfl (σ_isH (isH_of h0)) (lt_isH (isH_of h0)) rfl (by decide) (by decide) (Nat.le_of_ble_eq_true rfl) rfl dX2_reason_121 (fun v54 M53 hs => ?_)
                    refine wp_if_eq (tgt := 132) dX2_reason_124 (by decide) (fun c55 => ?_) (fun c55 => ?_)
                    · have hs := hs.1 c55
                      refine wp_iconst (v := (nI 0)) dX2_reason_132 (by decide) ?_
                      exact wp_ireturn rfl rfl dX2_reason_133 (hQ _ _ hs)
                    · have hs := hs.2 c55
                      refine wp_bipush (v := (nI 6)) dX2_reason_127 (by decide) ?_
                      refine wp_goto (tgt := 133) dX2_reason_129 (by decide) ?_
                      exact wp_ireturn rfl rfl dX2_reason_133 (hQ _ _ hs)
                  · have hs := hs.2 c52
                    refine wp_iconst (v := (nI 5)) dX2_reason_115 (by decide) ?_
                    exact wp_ireturn rfl rfl dX2_reason_116 (hQ _ _ hs)
              · have hs := hs.2 c48
                refine wp_iconst (v := (nI 4)) dX2_reason_101 (by decide) ?_
                exact wp_ireturn rfl rfl dX2_reason_102 (hQ _ _ hs)
          · have hs := hs.2 c43
            refine wp_iconst (v := (nI 1)) dX2_reason_73 (by decide) ?_
            refine wp_goto (tgt := 78) dX2_reason_74 (by decide) ?_
            refine wp_istore (ls' := [(0, .ref r0), (1, .ref r1), (2, .int b), (3, .int c), (4, .int d), (5, .int (nI 1)), (6, .int (nI 1))]) [1, 2, 3, 4, 5, 6, 0] dX2_reason_78 rfl (by decide) ?_
            refine wp_aload_n 0 dX2_reason_80 rfl ?_
            refine wp_get (v := .ref (r0 + 1)) dX2_reason_81 (σ_isP h0) (lt_isP h0) rfl in_X2_reason_X2 0 (by decide) fl_X2_reason_12 rfl rfl ?_
            refine wp_iload_n 2 dX2_reason_84 rfl ?_
            refine wp_cVv (As := [.int b]) (st := []) (mw_X3_swingUp (isH_of h0) hs) gX2_reason_X3_swingUp rfl hy_X3_swingUp rfl (σ_isH (isH_of h0)) (lt_isH (isH_of h0)) rfl (by decide) (by decide) (Nat.le_of_ble_eq_true rfl) rfl dX2_reason_85 (fun  M56 hs => ?_)
            refine wp_iload 5 dX2_reason_88 rfl ?_
            refine wp_if_ne (tgt := 101) dX2_reason_90 (by decide) (fun c57 => ?_) (fun c57 => ?_)
            · have hs := hs.1 c57
              refine wp_iconst (v := (nI 4)) dX2_reason_101 (by decide) ?_
              exact wp_ireturn rfl rfl dX2_reason_102 (hQ _ _ hs)
            · have hs := hs.2 c57
              refine wp_aload_n 0 dX2_reason_93 rfl ?_
              refine wp_aload_n 1 dX2_reason_94 rfl ?_
              refine wp_cVi (As := [.ref r1]) (st := []) (mw_X2_inUpper h0 h1 hs) gX2_reason_X2_inUpper rfl hy_X2_inUpper rfl (σ_isP h0) (lt_isP h0) rfl (by decide) (by decide) (Nat.le_of_ble_eq_true rfl) rfl dX2_reason_95 (fun v59 M58 hs => ?_)
              refine wp_if_eq (tgt := 103) dX2_reason_98 (by decide) (fun c60 => ?_) (fun c60 => ?_)
              · have hs := hs.1 c60
                refine wp_iload 6 dX2_reason_103 rfl ?_
                refine wp_if_ne (tgt := 115) dX2_reason_105 (by decide) (fun c61 => ?_) (fun c61 => ?_)
                · have hs := hs.1 c61
                  refine wp_iconst (v := (nI 5)) dX2_reason_115 (by decide) ?_
                  exact wp_ireturn rfl rfl dX2_reason_116 (hQ _ _ hs)
                · have hs := hs.2 c61
                  refine wp_aload_n 0 dX2_reason_108 rfl ?_
                  refine wp_cVi (As := []) (st := []) (mw_X2_inLower h0 hs) gX2_reason_X2_inLower rfl hy_X2_inLower rfl (σ_isP h0) (lt_isP h0) rfl (by decide) (by decide) (Nat.le_of_ble_eq_true rfl) rfl dX2_reason_109 (fun v63 M62 hs => ?_)
                  refine wp_if_eq (tgt := 117) dX2_reason_112 (by decide) (fun c64 => ?_) (fun c64 => ?_)
                  · have hs := hs.1 c64
                    refine wp_aload_n 0 dX2_reason_117 rfl ?_
                    refine wp_get (v := .ref (r0 + 1)) dX2_reason_118 (σ_isP h0) (lt_isP h0) rfl in_X2_reason_X2 0 (by decide) fl_X2_reason_12 rfl rfl ?_
                    refine wp_cVi (As := []) (st := []) (mw_X3_strikesItself (isH_of h0) hs) gX2_reason_X3_strikesItself rfl hy_X3_strikesItself rfl (σ_isH (isH_of h0)) (lt_isH (isH_of h0)) rfl (by decide) (by decide) (Nat.le_of_ble_eq_true rfl) rfl dX2_reason_121 (fun v66 M65 hs => ?_)
                    refine wp_if_eq (tgt := 132) dX2_reason_124 (by decide) (fun c67 => ?_) (fun c67 => ?_)
                    · have hs := hs.1 c67
                      refine wp_iconst (v := (nI 0)) dX2_reason_132 (by decide) ?_
                      exact wp_ireturn rfl rfl dX2_reason_133 (hQ _ _ hs)
                    · have hs := hs.2 c67
                      refine wp_bipush (v := (nI 6)) dX2_reason_127 (by decide) ?_
                      refine wp_goto (tgt := 133) dX2_reason_129 (by decide) ?_
                      exact wp_ireturn rfl rfl dX2_reason_133 (hQ _ _ hs)
                  · have hs := hs.2 c64
                    refine wp_iconst (v := (nI 5)) dX2_reason_115 (by decide) ?_
                    exact wp_ireturn rfl rfl dX2_reason_116 (hQ _ _ hs)
              · have hs := hs.2 c60
                refine wp_iconst (v := (nI 4)) dX2_reason_101 (by decide) ?_
                exact wp_ireturn rfl rfl dX2_reason_102 (hQ _ _ hs)
      · have hs := hs.2 c9
        refine wp_iconst (v := (nI 3)) dX2_reason_37 (by decide) ?_
        exact wp_ireturn rfl rfl dX2_reason_38 (hQ _ _ hs)
    · have hs := hs.2 c4
      refine wp_iconst (v := (nI 2)) dX2_reason_21 (by decide) ?_
      exact wp_ireturn rfl rfl dX2_reason_22 (hQ _ _ hs)
  · have hs := hs.2 c1
    refine wp_iconst (v := (nI 1)) dX2_reason_9 (by decide) ?_
    exact wp_ireturn rfl rfl dX2_reason_10 (hQ _ _ hs)
abbrev iX1_fillRow : MI := (cX1_fillRow, 8, none, RX1, yX1_fillRow, wsX1_fillRow)
theorem hy_X1_fillRow : yX1_fillRow.cls = RX1 ∧ yX1_fillRow.cls ≠ "java/lang/invoke/MethodHandle" ∧ yX1_fillRow.cls ≠ "java/lang/invoke/VarHandle" ∧ (parseMethodDescriptor yX1_fillRow.desc).map (fun d => d.parameters.length) = some 2 := by decide +kernel
theorem in_X1_fillRow_X1 : ∀ w ∈ u_ws RX1 TX1 6, w ∈ wsX1_fillRow := by decide +kernel
theorem in_X1_fillRow_X4 : ∀ w ∈ u_ws RX4 TX4 7, w ∈ wsX1_fillRow := by decide +kernel
theorem fl_X1_fillRow_12 : Cond.fieldLink RX1 12 (TX1 0).1 (TX1 0).2.1 (TX1 0).2.2.1 ∈ wsX1_fillRow := by decide +kernel
theorem fl_X1_fillRow_21 : Cond.fieldLink RX1 21 (TX1 1).1 (TX1 1).2.1 (TX1 1).2.2.1 ∈ wsX1_fillRow := by decide +kernel
theorem fl_X1_fillRow_29 : Cond.fieldLink RX1 29 (TX1 3).1 (TX1 3).2.1 (TX1 3).2.2.1 ∈ wsX1_fillRow := by decide +kernel
theorem fl_X1_fillRow_33 : Cond.fieldLink RX1 33 (TX1 4).1 (TX1 4).2.1 (TX1 4).2.2.1 ∈ wsX1_fillRow := by decide +kernel
theorem fl_X1_fillRow_62 : Cond.fieldLink RX1 62 (TX4 0).1 (TX4 0).2.1 (TX4 0).2.2.1 ∈ wsX1_fillRow := by decide +kernel
def w_X1_fillRow_17 : Nat → Int32 → Int32 → Int32 → Int32 → (Nat → Nat → Int32) → (Int32 → Int32 → Int32 → (Nat → Nat → Int32) → Prop) → Prop
  | 0, _, _, _, _, _, _ => False
  | n + 1, x1, x3, x4, x5, M, K => (((M 40 0) ≤ x5 → K x3 x4 x5 M) ∧ (¬ (M 40 0) ≤ x5 → w_X1_waysFrom (x1 ||| ((nI 1) <<< (x5 &&& 31))) M (fun v4 M3 => w_X4_isUp 40 x5 M3 (fun v6 M5 => ((¬ v6 = 0 → ((v4 ≤ 0 → ∀ y9 : Int32, y9 = x5 + (nI 1) → w_X1_fillRow_17 n x1 x3 x4 y9 M5 K) ∧ (¬ v4 ≤ 0 → w_X2_reason 32 40 x5 x1 (nI 0) M5 (fun v11 M10 => ((¬ v11 = 0 → ∀ y13 : Int32, y13 = x5 + (nI 1) → w_X1_fillRow_17 n x1 x3 x4 y13 M10 K) ∧ (v11 = 0 → ∀ y14 : Int32, y14 = (x3 + v4) → ∀ y15 : Int32, y15 = (x4 ||| ((nI 1) <<< (x5 &&& 31))) → ∀ y16 : Int32, y16 = x5 + (nI 1) → w_X1_fillRow_17 n x1 y14 y15 y16 M10 K)))))) ∧ (v6 = 0 → ((v4 ≤ 0 → ∀ y18 : Int32, y18 = x5 + (nI 1) → w_X1_fillRow_17 n x1 x3 x4 y18 M5 K) ∧ (¬ v4 ≤ 0 → w_X2_reason 32 40 x5 x1 (nI 1) M5 (fun v20 M19 => ((¬ v20 = 0 → ∀ y22 : Int32, y22 = x5 + (nI 1) → w_X1_fillRow_17 n x1 x3 x4 y22 M19 K) ∧ (v20 = 0 → ∀ y23 : Int32, y23 = (x3 + v4) → ∀ y24 : Int32, y24 = (x4 ||| ((nI 1) <<< (x5 &&& 31))) → ∀ y25 : Int32, y25 = x5 + (nI 1) → w_X1_fillRow_17 n x1 y23 y24 y25 M19 K)))))))))))
set_option maxHeartbeats 4000000 in
set_option maxRecDepth 100000 in
theorem lp_X1_fillRow_17 {E : EN} {x1 : Int32} {Qf : PST} {K : Int32 → Int32 → Int32 → (Nat → Nat → Int32) → Prop} (hK : ∀ (z3 : Int32) (z4 : Int32) (z5 : Int32) (M : Nat → Nat → Int32), K z3 z4 z5 M → WP E iX1_fillRow 4 0 0 false 104 [(0, .ref 31), (1, .int x1), (3, .int z3), (4, .int z4)] [] σC 46 M Qf) : ∀ (nn : Nat) (x3 : Int32) (x4 : Int32) (x5 : Int32) (M : Nat → Nat → Int32), w_X1_fillRow_17 nn x1 x3 x4 x5 M K → WP E iX1_fillRow 4 0 0 false 17 [(0, .ref 31), (1, .int x1), (3, .int x3), (4, .int x4), (5, .int x5)] [] σC 46 M Qf := by
  intro nn
  induction nn with
  | zero => intro x3 x4 x5 M hs; exact hs.elim
  | succ n ih =>
    intro x3 x4 x5 M hs
    unfold w_X1_fillRow_17 at hs
    refine wp_iload 4 dX1_fillRow_17 rfl ?_
    refine wp_aload_n 0 dX1_fillRow_19 rfl ?_
    refine wp_get (v := .ref 40) dX1_fillRow_20 rfl (by decide) rfl in_X1_fillRow_X1 1 (by decide) fl_X1_fillRow_21 rfl rfl ?_
    refine wp_get (v := .int (M 40 0)) dX1_fillRow_23 (σ_isS (by decide)) (lt_isS (by decide)) rfl in_X1_fillRow_X4 0 (by decide) fl_X1_fillRow_62 rfl rfl ?_
    refine wp_icmp_ge (tgt := 104) dX1_fillRow_26 (by decide) (fun c2 => ?_) (fun c2 => ?_)
    · have hs := hs.1 c2
      refine wp_sub (ls' := [(0, .ref 31), (1, .int x1), (3, .int x3), (4, .int x4)]) [0, 1, 2, 3] rfl ?_
      exact hK _ _ _ _ hs
    · have hs := hs.2 c2
      refine wp_aload_n 0 dX1_fillRow_29 rfl ?_
      refine wp_iload_n 1 dX1_fillRow_30 rfl ?_
      refine wp_iconst (v := (nI 1)) dX1_fillRow_31 (by decide) ?_
      refine wp_iload 4 dX1_fillRow_32 rfl ?_
      refine wp_ishl dX1_fillRow_34 ?_
      refine wp_ior dX1_fillRow_35 ?_
      refine wp_cVi (As := [.int (x1 ||| ((nI 1) <<< (x5 &&& 31)))]) (st := []) (mw_X1_waysFrom  hs) gX1_fillRow_X1_waysFrom rfl hy_X1_waysFrom rfl rfl (by decide) rfl (by decide) (by decide) (Nat.le_of_ble_eq_true rfl) rfl dX1_fillRow_36 (fun v4 M3 hs => ?_)
      refine wp_istore (ls' := [(0, .ref 31), (1, .int x1), (3, .int x3), (4, .int x4), (5, .int x5), (6, .int v4)]) [1, 2, 3, 4, 5, 0] dX1_fillRow_39 rfl (by decide) ?_
      refine wp_aload_n 0 dX1_fillRow_41 rfl ?_
      refine wp_get (v := .ref 40) dX1_fillRow_42 rfl (by decide) rfl in_X1_fillRow_X1 1 (by decide) fl_X1_fillRow_21 rfl rfl ?_
      refine wp_iload 4 dX1_fillRow_45 rfl ?_
      refine wp_cVi (As := [.int x5]) (st := []) (mw_X4_isUp (by decide) hs) gX1_fillRow_X4_isUp rfl hy_X4_isUp rfl (σ_isS (by decide)) (lt_isS (by decide)) rfl (by decide) (by decide) (Nat.le_of_ble_eq_true rfl) rfl dX1_fillRow_47 (fun v6 M5 hs => ?_)
      refine wp_if_ne (tgt := 57) dX1_fillRow_50 (by decide) (fun c7 => ?_) (fun c7 => ?_)
      · have hs := hs.1 c7
        refine wp_iconst (v := (nI 0)) dX1_fillRow_57 (by decide) ?_
        refine wp_istore (ls' := [(0, .ref 31), (1, .int x1), (3, .int x3), (4, .int x4), (5, .int x5), (6, .int v4), (7, .int (nI 0))]) [1, 2, 3, 4, 5, 6, 0] dX1_fillRow_58 rfl (by decide) ?_
        refine wp_iload 5 dX1_fillRow_60 rfl ?_
        refine wp_if_le (tgt := 98) dX1_fillRow_62 (by decide) (fun c8 => ?_) (fun c8 => ?_)
        · have hs := hs.1 c8
          obtain ⟨y9, ey9⟩ : ∃ y : Int32, y = x5 + (nI 1) := ⟨_, rfl⟩
          have hs := hs y9 ey9
          refine wp_iinc (v := y9) (ls' := [(0, .ref 31), (1, .int x1), (3, .int x3), (4, .int x4), (5, .int y9), (6, .int v4), (7, .int (nI 0))]) 4 [1, 2, 3, 4, 0, 5, 6] dX1_fillRow_98 rfl (by rw [ey9]; rfl) rfl (by decide) ?_
          refine wp_goto (tgt := 17) dX1_fillRow_101 (by decide) ?_
          refine wp_sub (ls' := [(0, .ref 31), (1, .int x1), (3, .int x3), (4, .int x4), (5, .int y9)]) [0, 1, 2, 3, 4] rfl ?_
          exact ih _ _ _ _ hs
        · have hs := hs.2 c8
          refine wp_aload_n 0 dX1_fillRow_65 rfl ?_
          refine wp_get (v := .ref 32) dX1_fillRow_66 rfl (by decide) rfl in_X1_fillRow_X1 0 (by decide) fl_X1_fillRow_12 rfl rfl ?_
          refine wp_aload_n 0 dX1_fillRow_69 rfl ?_
          refine wp_get (v := .ref 40) dX1_fillRow_70 rfl (by decide) rfl in_X1_fillRow_X1 1 (by decide) fl_X1_fillRow_21 rfl rfl ?_
          refine wp_iload 4 dX1_fillRow_73 rfl ?_
          refine wp_iload_n 1 dX1_fillRow_75 rfl ?_
          refine wp_iload 6 dX1_fillRow_76 rfl ?_
          refine wp_cVi (As := [.ref 40, .int x5, .int x1, .int (nI 0)]) (st := []) (mw_X2_reason (by decide) (by decide) hs) gX1_fillRow_X2_reason rfl hy_X2_reason rfl (σ_isP (by decide)) (lt_isP (by decide)) rfl (by decide) (by decide) (Nat.le_of_ble_eq_true rfl) rfl dX1_fillRow_78 (fun v11 M10 hs => ?_)
          refine wp_if_ne (tgt := 98) dX1_fillRow_81 (by decide) (fun c12 => ?_) (fun c12 => ?_)
          · have hs := hs.1 c12
            obtain ⟨y13, ey13⟩ : ∃ y : Int32, y = x5 + (nI 1) := ⟨_, rfl⟩
            have hs := hs y13 ey13
            refine wp_iinc (v := y13) (ls' := [(0, .ref 31), (1, .int x1), (3, .int x3), (4, .int x4), (5, .int y13), (6, .int v4), (7, .int (nI 0))]) 4 [1, 2, 3, 4, 0, 5, 6] dX1_fillRow_98 rfl (by rw [ey13]; rfl) rfl (by decide) ?_
            refine wp_goto (tgt := 17) dX1_fillRow_101 (by decide) ?_
            refine wp_sub (ls' := [(0, .ref 31), (1, .int x1), (3, .int x3), (4, .int x4), (5, .int y13)]) [0, 1, 2, 3, 4] rfl ?_
            exact ih _ _ _ _ hs
          · have hs := hs.2 c12
            refine wp_iload_n 2 dX1_fillRow_84 rfl ?_
            refine wp_iload 5 dX1_fillRow_85 rfl ?_
            refine wp_iadd dX1_fillRow_87 ?_
            refine wp_topi (fun y14 ey14 => ?_)
            have hs := hs y14 ey14
            refine wp_istore_n (ls' := [(0, .ref 31), (1, .int x1), (3, .int y14), (4, .int x4), (5, .int x5), (6, .int v4), (7, .int (nI 0))]) [1, 2, 0, 3, 4, 5, 6] dX1_fillRow_88 rfl (by decide) ?_
            refine wp_iload 3 dX1_fillRow_89 rfl ?_
            refine wp_iconst (v := (nI 1)) dX1_fillRow_91 (by decide) ?_
            refine wp_iload 4 dX1_fillRow_92 rfl ?_
            refine wp_ishl dX1_fillRow_94 ?_
            refine wp_ior dX1_fillRow_95 ?_
            refine wp_topi (fun y15 ey15 => ?_)
            have hs := hs y15 ey15
            refine wp_istore (ls' := [(0, .ref 31), (1, .int x1), (3, .int y14), (4, .int y15), (5, .int x5), (6, .int v4), (7, .int (nI 0))]) [1, 2, 3, 0, 4, 5, 6] dX1_fillRow_96 rfl (by decide) ?_
            obtain ⟨y16, ey16⟩ : ∃ y : Int32, y = x5 + (nI 1) := ⟨_, rfl⟩
            have hs := hs y16 ey16
            refine wp_iinc (v := y16) (ls' := [(0, .ref 31), (1, .int x1), (3, .int y14), (4, .int y15), (5, .int y16), (6, .int v4), (7, .int (nI 0))]) 4 [1, 2, 3, 4, 0, 5, 6] dX1_fillRow_98 rfl (by rw [ey16]; rfl) rfl (by decide) ?_
            refine wp_goto (tgt := 17) dX1_fillRow_101 (by decide) ?_
            refine wp_sub (ls' := [(0, .ref 31), (1, .int x1), (3, .int y14), (4, .int y15), (5, .int y16)]) [0, 1, 2, 3, 4] rfl ?_
            exact ih _ _ _ _ hs
      · have hs := hs.2 c7
        refine wp_iconst (v := (nI 1)) dX1_fillRow_53 (by decide) ?_
        refine wp_goto (tgt := 58) dX1_fillRow_54 (by decide) ?_
        refine wp_istore (ls' := [(0, .ref 31), (1, .int x1), (3, .int x3), (4, .int x4), (5, .int x5), (6, .int v4), (7, .int (nI 1))]) [1, 2, 3, 4, 5, 6, 0] dX1_fillRow_58 rfl (by decide) ?_
        refine wp_iload 5 dX1_fillRow_60 rfl ?_
        refine wp_if_le (tgt := 98) dX1_fillRow_62 (by decide) (fun c17 => ?_) (fun c17 => ?_)
        · have hs := hs.1 c17
          obtain ⟨y18, ey18⟩ : ∃ y : Int32, y = x5 + (nI 1) := ⟨_, rfl⟩
          have hs := hs y18 ey18
          refine wp_iinc (v := y18) (ls' := [(0, .ref 31), (1, .int x1), (3, .int x3), (4, .int x4), (5, .int y18), (6, .int v4), (7, .int (nI 1))]) 4 [1, 2, 3, 4, 0, 5, 6] dX1_fillRow_98 rfl (by rw [ey18]; rfl) rfl (by decide) ?_
          refine wp_goto (tgt := 17) dX1_fillRow_101 (by decide) ?_
          refine wp_sub (ls' := [(0, .ref 31), (1, .int x1), (3, .int x3), (4, .int x4), (5, .int y18)]) [0, 1, 2, 3, 4] rfl ?_
          exact ih _ _ _ _ hs
        · have hs := hs.2 c17
          refine wp_aload_n 0 dX1_fillRow_65 rfl ?_
          refine wp_get (v := .ref 32) dX1_fillRow_66 rfl (by decide) rfl in_X1_fillRow_X1 0 (by decide) fl_X1_fillRow_12 rfl rfl ?_
          refine wp_aload_n 0 dX1_fillRow_69 rfl ?_
          refine wp_get (v := .ref 40) dX1_fillRow_70 rfl (by decide) rfl in_X1_fillRow_X1 1 (by decide) fl_X1_fillRow_21 rfl rfl ?_
          refine wp_iload 4 dX1_fillRow_73 rfl ?_
          refine wp_iload_n 1 dX1_fillRow_75 rfl ?_
          refine wp_iload 6 dX1_fillRow_76 rfl ?_
          refine wp_cVi (As := [.ref 40, .int x5, .int x1, .int (nI 1)]) (st := []) (mw_X2_reason (by decide) (by decide) hs) gX1_fillRow_X2_reason rfl hy_X2_reason rfl (σ_isP (by decide)) (lt_isP (by decide)) rfl (by decide) (by decide) (Nat.le_of_ble_eq_true rfl) rfl dX1_fillRow_78 (fun v20 M19 hs => ?_)
          refine wp_if_ne (tgt := 98) dX1_fillRow_81 (by decide) (fun c21 => ?_) (fun c21 => ?_)
          · have hs := hs.1 c21
            obtain ⟨y22, ey22⟩ : ∃ y : Int32, y = x5 + (nI 1) := ⟨_, rfl⟩
            have hs := hs y22 ey22
            refine wp_iinc (v := y22) (ls' := [(0, .ref 31), (1, .int x1), (3, .int x3), (4, .int x4), (5, .int y22), (6, .int v4), (7, .int (nI 1))]) 4 [1, 2, 3, 4, 0, 5, 6] dX1_fillRow_98 rfl (by rw [ey22]; rfl) rfl (by decide) ?_
            refine wp_goto (tgt := 17) dX1_fillRow_101 (by decide) ?_
            refine wp_sub (ls' := [(0, .ref 31), (1, .int x1), (3, .int x3), (4, .int x4), (5, .int y22)]) [0, 1, 2, 3, 4] rfl ?_
            exact ih _ _ _ _ hs
          · have hs := hs.2 c21
            refine wp_iload_n 2 dX1_fillRow_84 rfl ?_
            refine wp_iload 5 dX1_fillRow_85 rfl ?_
            refine wp_iadd dX1_fillRow_87 ?_
            refine wp_topi (fun y23 ey23 => ?_)
            have hs := hs y23 ey23
            refine wp_istore_n (ls' := [(0, .ref 31), (1, .int x1), (3, .int y23), (4, .int x4), (5, .int x5), (6, .int v4), (7, .int (nI 1))]) [1, 2, 0, 3, 4, 5, 6] dX1_fillRow_88 rfl (by decide) ?_
            refine wp_iload 3 dX1_fillRow_89 rfl ?_
            refine wp_iconst (v := (nI 1)) dX1_fillRow_91 (by decide) ?_
            refine wp_iload 4 dX1_fillRow_92 rfl ?_
            refine wp_ishl dX1_fillRow_94 ?_
            refine wp_ior dX1_fillRow_95 ?_
            refine wp_topi (fun y24 ey24 => ?_)
            have hs := hs y24 ey24
            refine wp_istore (ls' := [(0, .ref 31), (1, .int x1), (3, .int y23), (4, .int y24), (5, .int x5), (6, .int v4), (7, .int (nI 1))]) [1, 2, 3, 0, 4, 5, 6] dX1_fillRow_96 rfl (by decide) ?_
            obtain ⟨y25, ey25⟩ : ∃ y : Int32, y = x5 + (nI 1) := ⟨_, rfl⟩
            have hs := hs y25 ey25
            refine wp_iinc (v := y25) (ls' := [(0, .ref 31), (1, .int x1), (3, .int y23), (4, .int y24), (5, .int y25), (6, .int v4), (7, .int (nI 1))]) 4 [1, 2, 3, 4, 0, 5, 6] dX1_fillRow_98 rfl (by rw [ey25]; rfl) rfl (by decide) ?_
            refine wp_goto (tgt := 17) dX1_fillRow_101 (by decide) ?_
            refine wp_sub (ls' := [(0, .ref 31), (1, .int x1), (3, .int y23), (4, .int y24), (5, .int y25)]) [0, 1, 2, 3, 4] rfl ?_
            exact ih _ _ _ _ hs
def w_X1_fillRow (a : Int32) (b : Int32) (M : Nat → Nat → Int32) (Q : (Nat → Nat → Int32) → Prop) : Prop := ((¬ a = b → w_X1_fillRow_17 FU a (nI 0) (nI 0) (nI 0) M (fun y26 y27 y28 M29 => ((a < 0 → Q M29) ∧ (¬ a < 0 → (((nI 128) ≤ a → Q M29) ∧ (¬ (nI 128) ≤ a → (((nI 128) ≤ a → Q M29) ∧ (¬ (nI 128) ≤ a → (vp_in a 128 ∧ ∀ M33 : Nat → Nat → Int32, M33 = um M29 43 (upd (M29 43) a.toNatClampNeg y26) → (vp_in a 128 ∧ ∀ M34 : Nat → Nat → Int32, M34 = um M33 44 (upd (M33 44) a.toNatClampNeg y27) → Q M34)))))))))) ∧ (a = b → w_X1_fillRow_17 FU a (nI 1) (nI 0) (nI 0) M (fun y35 y36 y37 M38 => ((a < 0 → Q M38) ∧ (¬ a < 0 → (((nI 128) ≤ a → Q M38) ∧ (¬ (nI 128) ≤ a → (((nI 128) ≤ a → Q M38) ∧ (¬ (nI 128) ≤ a → (vp_in a 128 ∧ ∀ M42 : Nat → Nat → Int32, M42 = um M38 43 (upd (M38 43) a.toNatClampNeg y35) → (vp_in a 128 ∧ ∀ M43 : Nat → Nat → Int32, M43 = um M42 44 (upd (M42 44) a.toNatClampNeg y36) → Q M43)))))))))))
set_option maxHeartbeats 4000000 in
set_option maxRecDepth 100000 in
theorem mw_X1_fillRow {E : EN} {a : Int32} {b : Int32} {M : Nat → Nat → Int32} {Q : (Nat → Nat → Int32) → Prop} (hs : w_X1_fillRow a b M Q) : MW E iX1_fillRow 4 0 0 false [.ref 31, .int a, .int b] σC 46 M (qV σC 46 Q) := by
  refine mw_intro (ls := [(0, .ref 31), (1, .int a), (2, .int b)]) rfl (by decide +kernel) rfl rfl (Nat.le_of_ble_eq_true rfl) ?_
  have hQ : ∀ M, Q M → (qV σC 46 Q) none σC 46 M := fun _ h => ⟨rfl, rfl, rfl, h⟩
  generalize (qV σC 46 Q) = Qf at hQ ⊢
  unfold w_X1_fillRow at hs
  refine wp_iload_n 1 dX1_fillRow_0 rfl ?_
  refine wp_iload_n 2 dX1_fillRow_1 rfl ?_
  refine wp_icmp_ne (tgt := 9) dX1_fillRow_2 (by decide) (fun c1 => ?_) (fun c1 => ?_)
  · have hs := hs.1 c1
    refine wp_iconst (v := (nI 0)) dX1_fillRow_9 (by decide) ?_
    refine wp_istore_n (ls' := [(0, .ref 31), (1, .int a), (2, .int b), (3, .int (nI 0))]) [1, 2, 3, 0] dX1_fillRow_10 rfl (by decide) ?_
    refine wp_iconst (v := (nI 0)) dX1_fillRow_11 (by decide) ?_
    refine wp_istore (ls' := [(0, .ref 31), (1, .int a), (2, .int b), (3, .int (nI 0)), (4, .int (nI 0))]) [1, 2, 3, 4, 0] dX1_fillRow_12 rfl (by decide) ?_
    refine wp_iconst (v := (nI 0)) dX1_fillRow_14 (by decide) ?_
    refine wp_istore (ls' := [(0, .ref 31), (1, .int a), (2, .int b), (3, .int (nI 0)), (4, .int (nI 0)), (5, .int (nI 0))]) [1, 2, 3, 4, 5, 0] dX1_fillRow_15 rfl (by decide) ?_
    refine wp_sub (ls' := [(0, .ref 31), (1, .int a), (3, .int (nI 0)), (4, .int (nI 0)), (5, .int (nI 0))]) [0, 1, 3, 4, 5] rfl ?_
    refine lp_X1_fillRow_17 (K := fun y26 y27 y28 M29 => ((a < 0 → Q M29) ∧ (¬ a < 0 → (((nI 128) ≤ a → Q M29) ∧ (¬ (nI 128) ≤ a → (((nI 128) ≤ a → Q M29) ∧ (¬ (nI 128) ≤ a → (vp_in a 128 ∧ ∀ M33 : Nat → Nat → Int32, M33 = um M29 43 (upd (M29 43) a.toNatClampNeg y26) → (vp_in a 128 ∧ ∀ M34 : Nat → Nat → Int32, M34 = um M33 44 (upd (M33 44) a.toNatClampNeg y27) → Q M34))))))))) (fun y26 y27 y28 M29 hs => ?_) FU _ _ _ _ hs
    refine wp_iload_n 1 dX1_fillRow_104 rfl ?_
    refine wp_if_lt (tgt := 141) dX1_fillRow_105 (by decide) (fun c30 => ?_) (fun c30 => ?_)
    · have hs := hs.1 c30
      exact wp_return rfl dX1_fillRow_141 (hQ _ hs)
    · have hs := hs.2 c30
      refine wp_iload_n 1 dX1_fillRow_108 rfl ?_
      refine wp_aload_n 0 dX1_fillRow_109 rfl ?_
      refine wp_get (v := .ref 43) dX1_fillRow_110 rfl (by decide) rfl in_X1_fillRow_X1 3 (by decide) fl_X1_fillRow_29 rfl rfl ?_
      refine wp_alen (v := nI 128) rfl (by decide) (by decide) (by decide) dX1_fillRow_113 ?_
      refine wp_icmp_ge (tgt := 141) dX1_fillRow_114 (by decide) (fun c31 => ?_) (fun c31 => ?_)
      · have hs := hs.1 c31
        exact wp_return rfl dX1_fillRow_141 (hQ _ hs)
      · have hs := hs.2 c31
        refine wp_iload_n 1 dX1_fillRow_117 rfl ?_
        refine wp_aload_n 0 dX1_fillRow_118 rfl ?_
        refine wp_get (v := .ref 44) dX1_fillRow_119 rfl (by decide) rfl in_X1_fillRow_X1 4 (by decide) fl_X1_fillRow_33 rfl rfl ?_
        refine wp_alen (v := nI 128) rfl (by decide) (by decide) (by decide) dX1_fillRow_122 ?_
        refine wp_icmp_ge (tgt := 141) dX1_fillRow_123 (by decide) (fun c32 => ?_) (fun c32 => ?_)
        · have hs := hs.1 c32
          exact wp_return rfl dX1_fillRow_141 (hQ _ hs)
        · have hs := hs.2 c32
          refine wp_aload_n 0 dX1_fillRow_126 rfl ?_
          refine wp_get (v := .ref 43) dX1_fillRow_127 rfl (by decide) rfl in_X1_fillRow_X1 3 (by decide) fl_X1_fillRow_29 rfl rfl ?_
          refine wp_iload_n 1 dX1_fillRow_130 rfl ?_
          refine wp_iload_n 2 dX1_fillRow_131 rfl ?_
          have hv := hs.1
          have hs := hs.2
          refine wp_iast rfl (by decide) hv dX1_fillRow_132 (fun M33 eM33 => ?_)
          have hs := hs M33 eM33
          refine wp_aload_n 0 dX1_fillRow_133 rfl ?_
          refine wp_get (v := .ref 44) dX1_fillRow_134 rfl (by decide) rfl in_X1_fillRow_X1 4 (by decide) fl_X1_fillRow_33 rfl rfl ?_
          refine wp_iload_n 1 dX1_fillRow_137 rfl ?_
          refine wp_iload 3 dX1_fillRow_138 rfl ?_
          have hv := hs.1
          have hs := hs.2
          refine wp_iast rfl (by decide) hv dX1_fillRow_140 (fun M34 eM34 => ?_)
          have hs := hs M34 eM34
          exact wp_return rfl dX1_fillRow_141 (hQ _ hs)
  · have hs := hs.2 c1
    refine wp_iconst (v := (nI 1)) dX1_fillRow_5 (by decide) ?_
    refine wp_goto (tgt := 10) dX1_fillRow_6 (by decide) ?_
    refine wp_istore_n (ls' := [(0, .ref 31), (1, .int a), (2, .int b), (3, .int (nI 1))]) [1, 2, 3, 0] dX1_fillRow_10 rfl (by decide) ?_
    refine wp_iconst (v := (nI 0)) dX1_fillRow_11 (by decide) ?_
    refine wp_istore (ls' := [(0, .ref 31), (1, .int a), (2, .int b), (3, .int (nI 1)), (4, .int (nI 0))]) [1, 2, 3, 4, 0] dX1_fillRow_12 rfl (by decide) ?_
    refine wp_iconst (v := (nI 0)) dX1_fillRow_14 (by decide) ?_
    refine wp_istore (ls' := [(0, .ref 31), (1, .int a), (2, .int b), (3, .int (nI 1)), (4, .int (nI 0)), (5, .int (nI 0))]) [1, 2, 3, 4, 5, 0] dX1_fillRow_15 rfl (by decide) ?_
    refine wp_sub (ls' := [(0, .ref 31), (1, .int a), (3, .int (nI 1)), (4, .int (nI 0)), (5, .int (nI 0))]) [0, 1, 3, 4, 5] rfl ?_
    refine lp_X1_fillRow_17 (K := fun y35 y36 y37 M38 => ((a < 0 → Q M38) ∧ (¬ a < 0 → (((nI 128) ≤ a → Q M38) ∧ (¬ (nI 128) ≤ a → (((nI 128) ≤ a → Q M38) ∧ (¬ (nI 128) ≤ a → (vp_in a 128 ∧ ∀ M42 : Nat → Nat → Int32, M42 = um M38 43 (upd (M38 43) a.toNatClampNeg y35) → (vp_in a 128 ∧ ∀ M43 : Nat → Nat → Int32, M43 = um M42 44 (upd (M42 44) a.toNatClampNeg y36) → Q M43))))))))) (fun y35 y36 y37 M38 hs => ?_) FU _ _ _ _ hs
    refine wp_iload_n 1 dX1_fillRow_104 rfl ?_
    refine wp_if_lt (tgt := 141) dX1_fillRow_105 (by decide) (fun c39 => ?_) (fun c39 => ?_)
    · have hs := hs.1 c39
      exact wp_return rfl dX1_fillRow_141 (hQ _ hs)
    · have hs := hs.2 c39
      refine wp_iload_n 1 dX1_fillRow_108 rfl ?_
      refine wp_aload_n 0 dX1_fillRow_109 rfl ?_
      refine wp_get (v := .ref 43) dX1_fillRow_110 rfl (by decide) rfl in_X1_fillRow_X1 3 (by decide) fl_X1_fillRow_29 rfl rfl ?_
      refine wp_alen (v := nI 128) rfl (by decide) (by decide) (by decide) dX1_fillRow_113 ?_
      refine wp_icmp_ge (tgt := 141) dX1_fillRow_114 (by decide) (fun c40 => ?_) (fun c40 => ?_)
      · have hs := hs.1 c40
        exact wp_return rfl dX1_fillRow_141 (hQ _ hs)
      · have hs := hs.2 c40
        refine wp_iload_n 1 dX1_fillRow_117 rfl ?_
        refine wp_aload_n 0 dX1_fillRow_118 rfl ?_
        refine wp_get (v := .ref 44) dX1_fillRow_119 rfl (by decide) rfl in_X1_fillRow_X1 4 (by decide) fl_X1_fillRow_33 rfl rfl ?_
        refine wp_alen (v := nI 128) rfl (by decide) (by decide) (by decide) dX1_fillRow_122 ?_
        refine wp_icmp_ge (tgt := 141) dX1_fillRow_123 (by decide) (fun c41 => ?_) (fun c41 => ?_)
        · have hs := hs.1 c41
          exact wp_return rfl dX1_fillRow_141 (hQ _ hs)
        · have hs := hs.2 c41
          refine wp_aload_n 0 dX1_fillRow_126 rfl ?_
          refine wp_get (v := .ref 43) dX1_fillRow_127 rfl (by decide) rfl in_X1_fillRow_X1 3 (by decide) fl_X1_fillRow_29 rfl rfl ?_
          refine wp_iload_n 1 dX1_fillRow_130 rfl ?_
          refine wp_iload_n 2 dX1_fillRow_131 rfl ?_
          have hv := hs.1
          have hs := hs.2
          refine wp_iast rfl (by decide) hv dX1_fillRow_132 (fun M42 eM42 => ?_)
          have hs := hs M42 eM42
          refine wp_aload_n 0 dX1_fillRow_133 rfl ?_
          refine wp_get (v := .ref 44) dX1_fillRow_134 rfl (by decide) rfl in_X1_fillRow_X1 4 (by decide) fl_X1_fillRow_33 rfl rfl ?_
          refine wp_iload_n 1 dX1_fillRow_137 rfl ?_
          refine wp_iload 3 dX1_fillRow_138 rfl ?_
          have hv := hs.1
          have hs := hs.2
          refine wp_iast rfl (by decide) hv dX1_fillRow_140 (fun M43 eM43 => ?_)
          have hs := hs M43 eM43
          exact wp_return rfl dX1_fillRow_141 (hQ _ hs)
abbrev iX1_prepare : MI := (cX1_prepare, 4, none, RX1, yX1_prepare, wsX1_prepare)
theorem hy_X1_prepare : yX1_prepare.cls = RX1 ∧ yX1_prepare.cls ≠ "java/lang/invoke/MethodHandle" ∧ yX1_prepare.cls ≠ "java/lang/invoke/VarHandle" ∧ (parseMethodDescriptor yX1_prepare.desc).map (fun d => d.parameters.length) = some 1 := by decide +kernel
theorem in_X1_prepare_X1 : ∀ w ∈ u_ws RX1 TX1 6, w ∈ wsX1_prepare := by decide +kernel
theorem fl_X1_prepare_21 : Cond.fieldLink RX1 21 (TX1 1).1 (TX1 1).2.1 (TX1 1).2.2.1 ∈ wsX1_prepare := by decide +kernel
theorem fl_X1_prepare_25 : Cond.fieldLink RX1 25 (TX1 2).1 (TX1 2).2.1 (TX1 2).2.2.1 ∈ wsX1_prepare := by decide +kernel
theorem fl_X1_prepare_29 : Cond.fieldLink RX1 29 (TX1 3).1 (TX1 3).2.1 (TX1 3).2.2.1 ∈ wsX1_prepare := by decide +kernel
def w_X1_prepare_47 (r1 : Nat) : Nat → Int32 → Int32 → (Nat → Nat → Int32) → (Int32 → (Nat → Nat → Int32) → Prop) → Prop
  | 0, _, _, _, _ => False
  | n + 1, x2, x3, M, K => ((x3 < 0 → K x3 M) ∧ (¬ x3 < 0 → w_X1_fillRow x3 x2 M (fun M7 => ∀ y8 : Int32, y8 = x3 + (-1 : Int32) → w_X1_prepare_47 r1 n x2 y8 M7 K)))
set_option maxHeartbeats 4000000 in
set_option maxRecDepth 100000 in
theorem lp_X1_prepare_47 {E : EN} {r1 : Nat} {x2 : Int32} {Qf : PST} {K : Int32 → (Nat → Nat → Int32) → Prop} (h1 : isS r1) (hK : ∀ (z3 : Int32) (M : Nat → Nat → Int32), K z3 M → WP E iX1_prepare 5 0 0 false 63 [(0, .ref 31)] [] σC 46 M Qf) : ∀ (nn : Nat) (x3 : Int32) (M : Nat → Nat → Int32), w_X1_prepare_47 r1 nn x2 x3 M K → WP E iX1_prepare 5 0 0 false 47 [(0, .ref 31), (2, .int x2), (3, .int x3)] [] σC 46 M Qf := by
  intro nn
  induction nn with
  | zero => intro x3 M hs; exact hs.elim
  | succ n ih =>
    intro x3 M hs
    unfold w_X1_prepare_47 at hs
    refine wp_iload_n 2 dX1_prepare_47 rfl ?_
    refine wp_if_lt (tgt := 63) dX1_prepare_48 (by decide) (fun c6 => ?_) (fun c6 => ?_)
    · have hs := hs.1 c6
      refine wp_sub (ls' := [(0, .ref 31)]) [0] rfl ?_
      exact hK _ _ hs
    · have hs := hs.2 c6
      refine wp_aload_n 0 dX1_prepare_51 rfl ?_
      refine wp_iload_n 2 dX1_prepare_52 rfl ?_
      refine wp_iload_n 1 dX1_prepare_53 rfl ?_
      refine wp_cVv (As := [.int x3, .int x2]) (st := []) (mw_X1_fillRow  hs) gX1_prepare_X1_fillRow rfl hy_X1_fillRow rfl rfl (by decide) rfl (by decide) (by decide) (Nat.le_of_ble_eq_true rfl) rfl dX1_prepare_54 (fun  M7 hs => ?_)
      obtain ⟨y8, ey8⟩ : ∃ y : Int32, y = x3 + (-1 : Int32) := ⟨_, rfl⟩
      have hs := hs y8 ey8
      refine wp_iinc (v := y8) (ls' := [(0, .ref 31), (2, .int x2), (3, .int y8)]) 2 [1, 2, 0] dX1_prepare_57 rfl (by rw [ey8]; rfl) rfl (by decide) ?_
      refine wp_goto (tgt := 47) dX1_prepare_60 (by decide) ?_
      refine wp_sub (ls' := [(0, .ref 31), (2, .int x2), (3, .int y8)]) [0, 1, 2] rfl ?_
      exact ih _ _ hs
def w_X1_prepare (r1 : Nat) (M : Nat → Nat → Int32) (Q : (Nat → Nat → Int32) → Prop) : Prop := (((M 31 2) = 0 → w_X4_copyFrom 40 r1 M (fun M2 => w_X4_allBends 40 M2 (fun v4 M3 => ∀ y5 : Int32, y5 = (if ((nI 128) - (nI 1)) < v4 then ((nI 128) - (nI 1)) else v4) → w_X1_prepare_47 r1 FU v4 y5 M3 (fun y9 M10 => ∀ M11 : Nat → Nat → Int32, M11 = um M10 31 (upd (M10 31) 2 (nI 1)) → Q M11)))) ∧ (¬ (M 31 2) = 0 → w_X4_bendsLike 40 r1 M (fun v13 M12 => ((v13 = 0 → w_X4_copyFrom 40 r1 M12 (fun M15 => w_X4_allBends 40 M15 (fun v17 M16 => ∀ y18 : Int32, y18 = (if ((nI 128) - (nI 1)) < v17 then ((nI 128) - (nI 1)) else v17) → w_X1_prepare_47 r1 FU v17 y18 M16 (fun y19 M20 => ∀ M21 : Nat → Nat → Int32, M21 = um M20 31 (upd (M20 31) 2 (nI 1)) → Q M21)))) ∧ (¬ v13 = 0 → Q M12)))))
set_option maxHeartbeats 4000000 in
set_option maxRecDepth 100000 in
theorem mw_X1_prepare {E : EN} {r1 : Nat} {M : Nat → Nat → Int32} {Q : (Nat → Nat → Int32) → Prop} (h1 : isS r1) (hs : w_X1_prepare r1 M Q) : MW E iX1_prepare 5 0 0 false [.ref 31, .ref r1] σC 46 M (qV σC 46 Q) := by
  refine mw_intro (ls := [(0, .ref 31), (1, .ref r1)]) rfl (by decide +kernel) rfl rfl (Nat.le_of_ble_eq_true rfl) ?_
  have hQ : ∀ M, Q M → (qV σC 46 Q) none σC 46 M := fun _ h => ⟨rfl, rfl, rfl, h⟩
  generalize (qV σC 46 Q) = Qf at hQ ⊢
  unfold w_X1_prepare at hs
  refine wp_aload_n 0 dX1_prepare_0 rfl ?_
  refine wp_get (v := .int (M 31 2)) dX1_prepare_1 rfl (by decide) rfl in_X1_prepare_X1 2 (by decide) fl_X1_prepare_25 rfl rfl ?_
  refine wp_if_eq (tgt := 19) dX1_prepare_4 (by decide) (fun c1 => ?_) (fun c1 => ?_)
  · have hs := hs.1 c1
    refine wp_aload_n 0 dX1_prepare_19 rfl ?_
    refine wp_get (v := .ref 40) dX1_prepare_20 rfl (by decide) rfl in_X1_prepare_X1 1 (by decide) fl_X1_prepare_21 rfl rfl ?_
    refine wp_aload_n 1 dX1_prepare_23 rfl ?_
    refine wp_cVv (As := [.ref r1]) (st := []) (mw_X4_copyFrom (by decide) h1 hs) gX1_prepare_X4_copyFrom rfl hy_X4_copyFrom rfl (σ_isS (by decide)) (lt_isS (by decide)) rfl (by decide) (by decide) (Nat.le_of_ble_eq_true rfl) rfl dX1_prepare_24 (fun  M2 hs => ?_)
    refine wp_aload_n 0 dX1_prepare_27 rfl ?_
    refine wp_get (v := .ref 40) dX1_prepare_28 rfl (by decide) rfl in_X1_prepare_X1 1 (by decide) fl_X1_prepare_21 rfl rfl ?_
    refine wp_cVi (As := []) (st := []) (mw_X4_allBends (by decide) hs) gX1_prepare_X4_allBends rfl hy_X4_allBends rfl (σ_isS (by decide)) (lt_isS (by decide)) rfl (by decide) (by decide) (Nat.le_of_ble_eq_true rfl) rfl dX1_prepare_31 (fun v4 M3 hs => ?_)
    refine wp_istore_n (ls' := [(0, .ref 31), (1, .ref r1), (2, .int v4)]) [1, 2, 0] dX1_prepare_34 rfl (by decide) ?_
    refine wp_iload_n 2 dX1_prepare_35 rfl ?_
    refine wp_aload_n 0 dX1_prepare_36 rfl ?_
    refine wp_get (v := .ref 43) dX1_prepare_37 rfl (by decide) rfl in_X1_prepare_X1 3 (by decide) fl_X1_prepare_29 rfl rfl ?_
    refine wp_alen (v := nI 128) rfl (by decide) (by decide) (by decide) dX1_prepare_40 ?_
    refine wp_iconst (v := (nI 1)) dX1_prepare_41 (by decide) ?_
    refine wp_isub dX1_prepare_42 ?_
    refine wp_mmin (by decide +kernel) (by decide +kernel) (by decide +kernel) (by decide +kernel) (by decide) (Nat.le_of_ble_eq_true rfl) dX1_prepare_43 ?_
    refine wp_topi (fun y5 ey5 => ?_)
    have hs := hs y5 ey5
    refine wp_istore_n (ls' := [(0, .ref 31), (1, .ref r1), (2, .int v4), (3, .int y5)]) [1, 2, 3, 0] dX1_prepare_46 rfl (by decide) ?_
    refine wp_sub (ls' := [(0, .ref 31), (2, .int v4), (3, .int y5)]) [0, 2, 3] rfl ?_
    refine lp_X1_prepare_47 h1 (K := fun y9 M10 => ∀ M11 : Nat → Nat → Int32, M11 = um M10 31 (upd (M10 31) 2 (nI 1)) → Q M11) (fun y9 M10 hs => ?_) FU _ _ hs
    refine wp_aload_n 0 dX1_prepare_63 rfl ?_
    refine wp_iconst (v := (nI 1)) dX1_prepare_64 (by decide) ?_
    refine wp_put (ty := .boolean) tyX1 tyX1_ok nmX1 rfl (by decide) rfl in_X1_prepare_X1 2 (by decide) fl_X1_prepare_25 rfl rfl (by decide +kernel) rfl rfl dX1_prepare_65 (fun M11 eM11 => ?_)
    have hs := hs M11 eM11
    exact wp_return rfl dX1_prepare_68 (hQ _ hs)
  · have hs := hs.2 c1
    refine wp_aload_n 0 dX1_prepare_7 rfl ?_
    refine wp_get (v := .ref 40) dX1_prepare_8 rfl (by decide) rfl in_X1_prepare_X1 1 (by decide) fl_X1_prepare_21 rfl rfl ?_
    refine wp_aload_n 1 dX1_prepare_11 rfl ?_
    refine wp_cVi (As := [.ref r1]) (st := []) (mw_X4_bendsLike (by decide) h1 hs) gX1_prepare_X4_bendsLike rfl hy_X4_bendsLike rfl (σ_isS (by decide)) (lt_isS (by decide)) rfl (by decide) (by decide) (Nat.le_of_ble_eq_true rfl) rfl dX1_prepare_12 (fun v13 M12 hs => ?_)
    refine wp_if_eq (tgt := 19) dX1_prepare_15 (by decide) (fun c14 => ?_) (fun c14 => ?_)
    · have hs := hs.1 c14
      refine wp_aload_n 0 dX1_prepare_19 rfl ?_
      refine wp_get (v := .ref 40) dX1_prepare_20 rfl (by decide) rfl in_X1_prepare_X1 1 (by decide) fl_X1_prepare_21 rfl rfl ?_
      refine wp_aload_n 1 dX1_prepare_23 rfl ?_
      refine wp_cVv (As := [.ref r1]) (st := []) (mw_X4_copyFrom (by decide) h1 hs) gX1_prepare_X4_copyFrom rfl hy_X4_copyFrom rfl (σ_isS (by decide)) (lt_isS (by decide)) rfl (by decide) (by decide) (Nat.le_of_ble_eq_true rfl) rfl dX1_prepare_24 (fun  M15 hs => ?_)
      refine wp_aload_n 0 dX1_prepare_27 rfl ?_
      refine wp_get (v := .ref 40) dX1_prepare_28 rfl (by decide) rfl in_X1_prepare_X1 1 (by decide) fl_X1_prepare_21 rfl rfl ?_
      refine wp_cVi (As := []) (st := []) (mw_X4_allBends (by decide) hs) gX1_prepare_X4_allBends rfl hy_X4_allBends rfl (σ_isS (by decide)) (lt_isS (by decide)) rfl (by decide) (by decide) (Nat.le_of_ble_eq_true rfl) rfl dX1_prepare_31 (fun v17 M16 hs => ?_)
      refine wp_istore_n (ls' := [(0, .ref 31), (1, .ref r1), (2, .int v17)]) [1, 2, 0] dX1_prepare_34 rfl (by decide) ?_
      refine wp_iload_n 2 dX1_prepare_35 rfl ?_
      refine wp_aload_n 0 dX1_prepare_36 rfl ?_
      refine wp_get (v := .ref 43) dX1_prepare_37 rfl (by decide) rfl in_X1_prepare_X1 3 (by decide) fl_X1_prepare_29 rfl rfl ?_
      refine wp_alen (v := nI 128) rfl (by decide) (by decide) (by decide) dX1_prepare_40 ?_
      refine wp_iconst (v := (nI 1)) dX1_prepare_41 (by decide) ?_
      refine wp_isub dX1_prepare_42 ?_
      refine wp_mmin (by decide +kernel) (by decide +kernel) (by decide +kernel) (by decide +kernel) (by decide) (Nat.le_of_ble_eq_true rfl) dX1_prepare_43 ?_
      refine wp_topi (fun y18 ey18 => ?_)
      have hs := hs y18 ey18
      refine wp_istore_n (ls' := [(0, .ref 31), (1, .ref r1), (2, .int v17), (3, .int y18)]) [1, 2, 3, 0] dX1_prepare_46 rfl (by decide) ?_
      refine wp_sub (ls' := [(0, .ref 31), (2, .int v17), (3, .int y18)]) [0, 2, 3] rfl ?_
      refine lp_X1_prepare_47 h1 (K := fun y19 M20 => ∀ M21 : Nat → Nat → Int32, M21 = um M20 31 (upd (M20 31) 2 (nI 1)) → Q M21) (fun y19 M20 hs => ?_) FU _ _ hs
      refine wp_aload_n 0 dX1_prepare_63 rfl ?_
      refine wp_iconst (v := (nI 1)) dX1_prepare_64 (by decide) ?_
      refine wp_put (ty := .boolean) tyX1 tyX1_ok nmX1 rfl (by decide) rfl in_X1_prepare_X1 2 (by decide) fl_X1_prepare_25 rfl rfl (by decide +kernel) rfl rfl dX1_prepare_65 (fun M21 eM21 => ?_)
      have hs := hs M21 eM21
      exact wp_return rfl dX1_prepare_68 (hQ _ hs)
    · have hs := hs.2 c14
      exact wp_return rfl dX1_prepare_18 (hQ _ hs)
abbrev iX1_stepsFrom : MI := (cX1_stepsFrom, 2, some .int, RX1, yX1_stepsFrom, wsX1_stepsFrom)
theorem hy_X1_stepsFrom : yX1_stepsFrom.cls = RX1 ∧ yX1_stepsFrom.cls ≠ "java/lang/invoke/MethodHandle" ∧ yX1_stepsFrom.cls ≠ "java/lang/invoke/VarHandle" ∧ (parseMethodDescriptor yX1_stepsFrom.desc).map (fun d => d.parameters.length) = some 1 := by decide +kernel
theorem in_X1_stepsFrom_X1 : ∀ w ∈ u_ws RX1 TX1 6, w ∈ wsX1_stepsFrom := by decide +kernel
theorem fl_X1_stepsFrom_33 : Cond.fieldLink RX1 33 (TX1 4).1 (TX1 4).2.1 (TX1 4).2.2.1 ∈ wsX1_stepsFrom := by decide +kernel
def w_X1_stepsFrom (a : Int32) (M : Nat → Nat → Int32) (Q : Int32 → (Nat → Nat → Int32) → Prop) : Prop := ((a < 0 → Q (nI 0) M) ∧ (¬ a < 0 → (((nI 128) ≤ a → Q (nI 0) M) ∧ (¬ (nI 128) ≤ a → (vp_in a 128 ∧ Q (M 44 a.toNatClampNeg) M)))))
set_option maxHeartbeats 4000000 in
set_option maxRecDepth 100000 in
theorem mw_X1_stepsFrom {E : EN} {a : Int32} {M : Nat → Nat → Int32} {Q : Int32 → (Nat → Nat → Int32) → Prop} (hs : w_X1_stepsFrom a M Q) : MW E iX1_stepsFrom 1 0 0 false [.ref 31, .int a] σC 46 M (qI σC 46 Q) := by
  refine mw_intro (ls := [(0, .ref 31), (1, .int a)]) rfl (by decide +kernel) rfl rfl (Nat.le_of_ble_eq_true rfl) ?_
  have hQ : ∀ x M, Q x M → (qI σC 46 Q) (some (.int x)) σC 46 M := fun _ _ h => ⟨_, rfl, rfl, rfl, h⟩
  generalize (qI σC 46 Q) = Qf at hQ ⊢
  unfold w_X1_stepsFrom at hs
  refine wp_iload_n 1 dX1_stepsFrom_0 rfl ?_
  refine wp_if_lt (tgt := 22) dX1_stepsFrom_1 (by decide) (fun c1 => ?_) (fun c1 => ?_)
  · have hs := hs.1 c1
    refine wp_iconst (v := (nI 0)) dX1_stepsFrom_22 (by decide) ?_
    exact wp_ireturn rfl rfl dX1_stepsFrom_23 (hQ _ _ hs)
  · have hs := hs.2 c1
    refine wp_iload_n 1 dX1_stepsFrom_4 rfl ?_
    refine wp_aload_n 0 dX1_stepsFrom_5 rfl ?_
    refine wp_get (v := .ref 44) dX1_stepsFrom_6 rfl (by decide) rfl in_X1_stepsFrom_X1 4 (by decide) fl_X1_stepsFrom_33 rfl rfl ?_
    refine wp_alen (v := nI 128) rfl (by decide) (by decide) (by decide) dX1_stepsFrom_9 ?_
    refine wp_icmp_ge (tgt := 22) dX1_stepsFrom_10 (by decide) (fun c2 => ?_) (fun c2 => ?_)
    · have hs := hs.1 c2
      refine wp_iconst (v := (nI 0)) dX1_stepsFrom_22 (by decide) ?_
      exact wp_ireturn rfl rfl dX1_stepsFrom_23 (hQ _ _ hs)
    · have hs := hs.2 c2
      refine wp_aload_n 0 dX1_stepsFrom_13 rfl ?_
      refine wp_get (v := .ref 44) dX1_stepsFrom_14 rfl (by decide) rfl in_X1_stepsFrom_X1 4 (by decide) fl_X1_stepsFrom_33 rfl rfl ?_
      refine wp_iload_n 1 dX1_stepsFrom_17 rfl ?_
      have hv := hs.1
      have hs := hs.2
      refine wp_iald rfl (by decide) hv dX1_stepsFrom_18 ?_
      refine wp_goto (tgt := 23) dX1_stepsFrom_19 (by decide) ?_
      exact wp_ireturn rfl rfl dX1_stepsFrom_23 (hQ _ _ hs)
abbrev iX1_firstStep : MI := (cX1_firstStep, 4, some .int, RX1, yX1_firstStep, wsX1_firstStep)
theorem hy_X1_firstStep : yX1_firstStep.cls = RX1 ∧ yX1_firstStep.cls ≠ "java/lang/invoke/MethodHandle" ∧ yX1_firstStep.cls ≠ "java/lang/invoke/VarHandle" ∧ (parseMethodDescriptor yX1_firstStep.desc).map (fun d => d.parameters.length) = some 1 := by decide +kernel
theorem in_X1_firstStep_X1 : ∀ w ∈ u_ws RX1 TX1 6, w ∈ wsX1_firstStep := by decide +kernel
theorem in_X1_firstStep_X4 : ∀ w ∈ u_ws RX4 TX4 7, w ∈ wsX1_firstStep := by decide +kernel
theorem fl_X1_firstStep_21 : Cond.fieldLink RX1 21 (TX1 1).1 (TX1 1).2.1 (TX1 1).2.2.1 ∈ wsX1_firstStep := by decide +kernel
theorem fl_X1_firstStep_62 : Cond.fieldLink RX1 62 (TX4 0).1 (TX4 0).2.1 (TX4 0).2.2.1 ∈ wsX1_firstStep := by decide +kernel
def w_X1_firstStep_8 : Nat → Int32 → Int32 → (Nat → Nat → Int32) → (Int32 → (Nat → Nat → Int32) → Prop) → (Int32 → (Nat → Nat → Int32) → Prop) → Prop
  | 0, _, _, _, _, _ => False
  | n + 1, x2, x3, M, Q, K => (((M 40 0) ≤ x3 → K x3 M) ∧ (¬ (M 40 0) ≤ x3 → ((¬ ((x2 >>> (x3 &&& 31)) &&& (nI 1)) = (nI 1) → ∀ y5 : Int32, y5 = x3 + (nI 1) → w_X1_firstStep_8 n x2 y5 M Q K) ∧ (((x2 >>> (x3 &&& 31)) &&& (nI 1)) = (nI 1) → Q x3 M))))
set_option maxHeartbeats 4000000 in
set_option maxRecDepth 100000 in
theorem lp_X1_firstStep_8 {E : EN} {x2 : Int32} {Qf : PST} {Q : Int32 → (Nat → Nat → Int32) → Prop} {K : Int32 → (Nat → Nat → Int32) → Prop} (hQ : ∀ x M, Q x M → Qf (some (.int x)) σC 46 M) (hK : ∀ (z3 : Int32) (M : Nat → Nat → Int32), K z3 M → WP E iX1_firstStep 2 0 0 false 36 [] [] σC 46 M Qf) : ∀ (nn : Nat) (x3 : Int32) (M : Nat → Nat → Int32), w_X1_firstStep_8 nn x2 x3 M Q K → WP E iX1_firstStep 2 0 0 false 8 [(0, .ref 31), (2, .int x2), (3, .int x3)] [] σC 46 M Qf := by
  intro nn
  induction nn with
  | zero => intro x3 M hs; exact hs.elim
  | succ n ih =>
    intro x3 M hs
    unfold w_X1_firstStep_8 at hs
    refine wp_iload_n 2 dX1_firstStep_8 rfl ?_
    refine wp_aload_n 0 dX1_firstStep_9 rfl ?_
    refine wp_get (v := .ref 40) dX1_firstStep_10 rfl (by decide) rfl in_X1_firstStep_X1 1 (by decide) fl_X1_firstStep_21 rfl rfl ?_
    refine wp_get (v := .int (M 40 0)) dX1_firstStep_13 (σ_isS (by decide)) (lt_isS (by decide)) rfl in_X1_firstStep_X4 0 (by decide) fl_X1_firstStep_62 rfl rfl ?_
    refine wp_icmp_ge (tgt := 36) dX1_firstStep_16 (by decide) (fun c3 => ?_) (fun c3 => ?_)
    · have hs := hs.1 c3
      refine wp_sub (ls' := []) [] rfl ?_
      exact hK _ _ hs
    · have hs := hs.2 c3
      refine wp_iload_n 1 dX1_firstStep_19 rfl ?_
      refine wp_iload_n 2 dX1_firstStep_20 rfl ?_
      refine wp_ishr dX1_firstStep_21 ?_
      refine wp_iconst (v := (nI 1)) dX1_firstStep_22 (by decide) ?_
      refine wp_iand dX1_firstStep_23 ?_
      refine wp_iconst (v := (nI 1)) dX1_firstStep_24 (by decide) ?_
      refine wp_icmp_ne (tgt := 30) dX1_firstStep_25 (by decide) (fun c4 => ?_) (fun c4 => ?_)
      · have hs := hs.1 c4
        obtain ⟨y5, ey5⟩ : ∃ y : Int32, y = x3 + (nI 1) := ⟨_, rfl⟩
        have hs := hs y5 ey5
        refine wp_iinc (v := y5) (ls' := [(0, .ref 31), (2, .int x2), (3, .int y5)]) 2 [1, 2, 0] dX1_firstStep_30 rfl (by rw [ey5]; rfl) rfl (by decide) ?_
        refine wp_goto (tgt := 8) dX1_firstStep_33 (by decide) ?_
        refine wp_sub (ls' := [(0, .ref 31), (2, .int x2), (3, .int y5)]) [0, 1, 2] rfl ?_
        exact ih _ _ hs
      · have hs := hs.2 c4
        refine wp_iload_n 2 dX1_firstStep_28 rfl ?_
        exact wp_ireturn rfl rfl dX1_firstStep_29 (hQ _ _ hs)
def w_X1_firstStep (a : Int32) (M : Nat → Nat → Int32) (Q : Int32 → (Nat → Nat → Int32) → Prop) : Prop := w_X1_stepsFrom a M (fun v2 M1 => w_X1_firstStep_8 FU v2 (nI 0) M1 Q (fun y6 M7 => Q (nI 0) M7))
set_option maxHeartbeats 4000000 in
set_option maxRecDepth 100000 in
theorem mw_X1_firstStep {E : EN} {a : Int32} {M : Nat → Nat → Int32} {Q : Int32 → (Nat → Nat → Int32) → Prop} (hs : w_X1_firstStep a M Q) : MW E iX1_firstStep 2 0 0 false [.ref 31, .int a] σC 46 M (qI σC 46 Q) := by
  refine mw_intro (ls := [(0, .ref 31), (1, .int a)]) rfl (by decide +kernel) rfl rfl (Nat.le_of_ble_eq_true rfl) ?_
  have hQ : ∀ x M, Q x M → (qI σC 46 Q) (some (.int x)) σC 46 M := fun _ _ h => ⟨_, rfl, rfl, rfl, h⟩
  generalize (qI σC 46 Q) = Qf at hQ ⊢
  unfold w_X1_firstStep at hs
  refine wp_aload_n 0 dX1_firstStep_0 rfl ?_
  refine wp_iload_n 1 dX1_firstStep_1 rfl ?_
  refine wp_cVi (As := [.int a]) (st := []) (mw_X1_stepsFrom  hs) gX1_firstStep_X1_stepsFrom rfl hy_X1_stepsFrom rfl rfl (by decide) rfl (by decide) (by decide) (Nat.le_of_ble_eq_true rfl) rfl dX1_firstStep_2 (fun v2 M1 hs => ?_)
  refine wp_istore_n (ls' := [(0, .ref 31), (1, .int a), (2, .int v2)]) [1, 2, 0] dX1_firstStep_5 rfl (by decide) ?_
  refine wp_iconst (v := (nI 0)) dX1_firstStep_6 (by decide) ?_
  refine wp_istore_n (ls' := [(0, .ref 31), (1, .int a), (2, .int v2), (3, .int (nI 0))]) [1, 2, 3, 0] dX1_firstStep_7 rfl (by decide) ?_
  refine wp_sub (ls' := [(0, .ref 31), (2, .int v2), (3, .int (nI 0))]) [0, 2, 3] rfl ?_
  refine lp_X1_firstStep_8 hQ (K := fun y6 M7 => Q (nI 0) M7) (fun y6 M7 hs => ?_) FU _ _ hs
  refine wp_iconst (v := (nI 0)) dX1_firstStep_36 (by decide) ?_
  exact wp_ireturn rfl rfl dX1_firstStep_37 (hQ _ _ hs)
abbrev iX1_turnings : MI := (cX1_turnings, 8, some .int, RX1, yX1_turnings, wsX1_turnings)
theorem hy_X1_turnings : yX1_turnings.cls = RX1 ∧ yX1_turnings.cls ≠ "java/lang/invoke/MethodHandle" ∧ yX1_turnings.cls ≠ "java/lang/invoke/VarHandle" ∧ (parseMethodDescriptor yX1_turnings.desc).map (fun d => d.parameters.length) = some 2 := by decide +kernel
theorem in_X1_turnings_X1 : ∀ w ∈ u_ws RX1 TX1 6, w ∈ wsX1_turnings := by decide +kernel
theorem in_X1_turnings_X4 : ∀ w ∈ u_ws RX4 TX4 7, w ∈ wsX1_turnings := by decide +kernel
theorem fl_X1_turnings_21 : Cond.fieldLink RX1 21 (TX1 1).1 (TX1 1).2.1 (TX1 1).2.2.1 ∈ wsX1_turnings := by decide +kernel
theorem fl_X1_turnings_62 : Cond.fieldLink RX1 62 (TX4 0).1 (TX4 0).2.1 (TX4 0).2.2.1 ∈ wsX1_turnings := by decide +kernel
def w_X1_turnings_14 : Nat → Int32 → Int32 → Int32 → Int32 → Int32 → (Nat → Nat → Int32) → (Int32 → Int32 → Int32 → Int32 → (Nat → Nat → Int32) → Prop) → Prop
  | 0, _, _, _, _, _, _, _ => False
  | n + 1, x1, x2, x3, x4, x5, M, K => (((M 40 0) ≤ x5 → K x1 x2 x4 x5 M) ∧ (¬ (M 40 0) ≤ x5 → ((x1 = x3 → K x1 x2 x4 x5 M) ∧ (¬ x1 = x3 → w_X1_firstStep x1 M (fun v6 M5 => w_X4_isUp 40 v6 M5 (fun v8 M7 => ((¬ v8 = 0 → (((nI 0) = x2 → ∀ y11 : Int32, y11 = (x1 ||| ((nI 1) <<< (v6 &&& 31))) → ∀ y12 : Int32, y12 = x5 + (nI 1) → w_X1_turnings_14 n y11 (nI 0) x3 x4 y12 M7 K) ∧ (¬ (nI 0) = x2 → ∀ y13 : Int32, y13 = x4 + (nI 1) → ∀ y14 : Int32, y14 = (x1 ||| ((nI 1) <<< (v6 &&& 31))) → ∀ y15 : Int32, y15 = x5 + (nI 1) → w_X1_turnings_14 n y14 (nI 0) x3 y13 y15 M7 K))) ∧ (v8 = 0 → (((nI 1) = x2 → ∀ y17 : Int32, y17 = (x1 ||| ((nI 1) <<< (v6 &&& 31))) → ∀ y18 : Int32, y18 = x5 + (nI 1) → w_X1_turnings_14 n y17 (nI 1) x3 x4 y18 M7 K) ∧ (¬ (nI 1) = x2 → ∀ y19 : Int32, y19 = x4 + (nI 1) → ∀ y20 : Int32, y20 = (x1 ||| ((nI 1) <<< (v6 &&& 31))) → ∀ y21 : Int32, y21 = x5 + (nI 1) → w_X1_turnings_14 n y20 (nI 1) x3 y19 y21 M7 K))))))))))
set_option maxHeartbeats 4000000 in
set_option maxRecDepth 100000 in
theorem lp_X1_turnings_14 {E : EN} {x3 : Int32} {Qf : PST} {K : Int32 → Int32 → Int32 → Int32 → (Nat → Nat → Int32) → Prop} (hK : ∀ (z1 : Int32) (z2 : Int32) (z4 : Int32) (z5 : Int32) (M : Nat → Nat → Int32), K z1 z2 z4 z5 M → WP E iX1_turnings 3 0 0 false 82 [(4, .int z4)] [] σC 46 M Qf) : ∀ (nn : Nat) (x1 : Int32) (x2 : Int32) (x4 : Int32) (x5 : Int32) (M : Nat → Nat → Int32), w_X1_turnings_14 nn x1 x2 x3 x4 x5 M K → WP E iX1_turnings 3 0 0 false 14 [(0, .ref 31), (1, .int x1), (2, .int x2), (3, .int x3), (4, .int x4), (5, .int x5)] [] σC 46 M Qf := by
  intro nn
  induction nn with
  | zero => intro x1 x2 x4 x5 M hs; exact hs.elim
  | succ n ih =>
    intro x1 x2 x4 x5 M hs
    unfold w_X1_turnings_14 at hs
    refine wp_iload 5 dX1_turnings_14 rfl ?_
    refine wp_aload_n 0 dX1_turnings_16 rfl ?_
    refine wp_get (v := .ref 40) dX1_turnings_17 rfl (by decide) rfl in_X1_turnings_X1 1 (by decide) fl_X1_turnings_21 rfl rfl ?_
    refine wp_get (v := .int (M 40 0)) dX1_turnings_20 (σ_isS (by decide)) (lt_isS (by decide)) rfl in_X1_turnings_X4 0 (by decide) fl_X1_turnings_62 rfl rfl ?_
    refine wp_icmp_ge (tgt := 82) dX1_turnings_23 (by decide) (fun c3 => ?_) (fun c3 => ?_)
    · have hs := hs.1 c3
      refine wp_sub (ls' := [(4, .int x4)]) [4] rfl ?_
      exact hK _ _ _ _ _ hs
    · have hs := hs.2 c3
      refine wp_iload_n 1 dX1_turnings_26 rfl ?_
      refine wp_iload_n 3 dX1_turnings_27 rfl ?_
      refine wp_icmp_eq (tgt := 82) dX1_turnings_28 (by decide) (fun c4 => ?_) (fun c4 => ?_)
      · have hs := hs.1 c4
        refine wp_sub (ls' := [(4, .int x4)]) [4] rfl ?_
        exact hK _ _ _ _ _ hs
      · have hs := hs.2 c4
        refine wp_aload_n 0 dX1_turnings_31 rfl ?_
        refine wp_iload_n 1 dX1_turnings_32 rfl ?_
        refine wp_cVi (As := [.int x1]) (st := []) (mw_X1_firstStep  hs) gX1_turnings_X1_firstStep rfl hy_X1_firstStep rfl rfl (by decide) rfl (by decide) (by decide) (Nat.le_of_ble_eq_true rfl) rfl dX1_turnings_33 (fun v6 M5 hs => ?_)
        refine wp_istore (ls' := [(0, .ref 31), (1, .int x1), (2, .int x2), (3, .int x3), (4, .int x4), (5, .int x5), (6, .int v6)]) [1, 2, 3, 4, 5, 6, 0] dX1_turnings_36 rfl (by decide) ?_
        refine wp_aload_n 0 dX1_turnings_38 rfl ?_
        refine wp_get (v := .ref 40) dX1_turnings_39 rfl (by decide) rfl in_X1_turnings_X1 1 (by decide) fl_X1_turnings_21 rfl rfl ?_
        refine wp_iload 6 dX1_turnings_42 rfl ?_
        refine wp_cVi (As := [.int v6]) (st := []) (mw_X4_isUp (by decide) hs) gX1_turnings_X4_isUp rfl hy_X4_isUp rfl (σ_isS (by decide)) (lt_isS (by decide)) rfl (by decide) (by decide) (Nat.le_of_ble_eq_true rfl) rfl dX1_turnings_44 (fun v8 M7 hs => ?_)
        refine wp_if_ne (tgt := 54) dX1_turnings_47 (by decide) (fun c9 => ?_) (fun c9 => ?_)
        · have hs := hs.1 c9
          refine wp_iconst (v := (nI 0)) dX1_turnings_54 (by decide) ?_
          refine wp_istore (ls' := [(0, .ref 31), (1, .int x1), (2, .int x2), (3, .int x3), (4, .int x4), (5, .int x5), (6, .int v6), (7, .int (nI 0))]) [1, 2, 3, 4, 5, 6, 7, 0] dX1_turnings_55 rfl (by decide) ?_
          refine wp_iload 7 dX1_turnings_57 rfl ?_
          refine wp_iload_n 2 dX1_turnings_59 rfl ?_
          refine wp_icmp_eq (tgt := 66) dX1_turnings_60 (by decide) (fun c10 => ?_) (fun c10 => ?_)
          · have hs := hs.1 c10
            refine wp_iload 7 dX1_turnings_66 rfl ?_
            refine wp_istore_n (ls' := [(0, .ref 31), (1, .int x1), (2, .int (nI 0)), (3, .int x3), (4, .int x4), (5, .int x5), (6, .int v6), (7, .int (nI 0))]) [1, 2, 0, 3, 4, 5, 6, 7] dX1_turnings_68 rfl (by decide) ?_
            refine wp_iload_n 1 dX1_turnings_69 rfl ?_
            refine wp_iconst (v := (nI 1)) dX1_turnings_70 (by decide) ?_
            refine wp_iload 6 dX1_turnings_71 rfl ?_
            refine wp_ishl dX1_turnings_73 ?_
            refine wp_ior dX1_turnings_74 ?_
            refine wp_topi (fun y11 ey11 => ?_)
            have hs := hs y11 ey11
            refine wp_istore_n (ls' := [(0, .ref 31), (1, .int y11), (2, .int (nI 0)), (3, .int x3), (4, .int x4), (5, .int x5), (6, .int v6), (7, .int (nI 0))]) [1, 0, 2, 3, 4, 5, 6, 7] dX1_turnings_75 rfl (by decide) ?_
            obtain ⟨y12, ey12⟩ : ∃ y : Int32, y = x5 + (nI 1) := ⟨_, rfl⟩
            have hs := hs y12 ey12
            refine wp_iinc (v := y12) (ls' := [(0, .ref 31), (1, .int y11), (2, .int (nI 0)), (3, .int x3), (4, .int x4), (5, .int y12), (6, .int v6), (7, .int (nI 0))]) 5 [1, 2, 3, 4, 5, 0, 6, 7] dX1_turnings_76 rfl (by rw [ey12]; rfl) rfl (by decide) ?_
            refine wp_goto (tgt := 14) dX1_turnings_79 (by decide) ?_
            refine wp_sub (ls' := [(0, .ref 31), (1, .int y11), (2, .int (nI 0)), (3, .int x3), (4, .int x4), (5, .int y12)]) [0, 1, 2, 3, 4, 5] rfl ?_
            exact ih _ _ _ _ _ hs
          · have hs := hs.2 c10
            obtain ⟨y13, ey13⟩ : ∃ y : Int32, y = x4 + (nI 1) := ⟨_, rfl⟩
            have hs := hs y13 ey13
            refine wp_iinc (v := y13) (ls' := [(0, .ref 31), (1, .int x1), (2, .int x2), (3, .int x3), (4, .int y13), (5, .int x5), (6, .int v6), (7, .int (nI 0))]) 4 [1, 2, 3, 4, 0, 5, 6, 7] dX1_turnings_63 rfl (by rw [ey13]; rfl) rfl (by decide) ?_
            refine wp_iload 7 dX1_turnings_66 rfl ?_
            refine wp_istore_n (ls' := [(0, .ref 31), (1, .int x1), (2, .int (nI 0)), (3, .int x3), (4, .int y13), (5, .int x5), (6, .int v6), (7, .int (nI 0))]) [1, 2, 0, 3, 4, 5, 6, 7] dX1_turnings_68 rfl (by decide) ?_
            refine wp_iload_n 1 dX1_turnings_69 rfl ?_
            refine wp_iconst (v := (nI 1)) dX1_turnings_70 (by decide) ?_
            refine wp_iload 6 dX1_turnings_71 rfl ?_
            refine wp_ishl dX1_turnings_73 ?_
            refine wp_ior dX1_turnings_74 ?_
            refine wp_topi (fun y14 ey14 => ?_)
            have hs := hs y14 ey14
            refine wp_istore_n (ls' := [(0, .ref 31), (1, .int y14), (2, .int (nI 0)), (3, .int x3), (4, .int y13), (5, .int x5), (6, .int v6), (7, .int (nI 0))]) [1, 0, 2, 3, 4, 5, 6, 7] dX1_turnings_75 rfl (by decide) ?_
            obtain ⟨y15, ey15⟩ : ∃ y : Int32, y = x5 + (nI 1) := ⟨_, rfl⟩
            have hs := hs y15 ey15
            refine wp_iinc (v := y15) (ls' := [(0, .ref 31), (1, .int y14), (2, .int (nI 0)), (3, .int x3), (4, .int y13), (5, .int y15), (6, .int v6), (7, .int (nI 0))]) 5 [1, 2, 3, 4, 5, 0, 6, 7] dX1_turnings_76 rfl (by rw [ey15]; rfl) rfl (by decide) ?_
            refine wp_goto (tgt := 14) dX1_turnings_79 (by decide) ?_
            refine wp_sub (ls' := [(0, .ref 31), (1, .int y14), (2, .int (nI 0)), (3, .int x3), (4, .int y13), (5, .int y15)]) [0, 1, 2, 3, 4, 5] rfl ?_
            exact ih _ _ _ _ _ hs
        · have hs := hs.2 c9
          refine wp_iconst (v := (nI 1)) dX1_turnings_50 (by decide) ?_
          refine wp_goto (tgt := 55) dX1_turnings_51 (by decide) ?_
          refine wp_istore (ls' := [(0, .ref 31), (1, .int x1), (2, .int x2), (3, .int x3), (4, .int x4), (5, .int x5), (6, .int v6), (7, .int (nI 1))]) [1, 2, 3, 4, 5, 6, 7, 0] dX1_turnings_55 rfl (by decide) ?_
          refine wp_iload 7 dX1_turnings_57 rfl ?_
          refine wp_iload_n 2 dX1_turnings_59 rfl ?_
          refine wp_icmp_eq (tgt := 66) dX1_turnings_60 (by decide) (fun c16 => ?_) (fun c16 => ?_)
          · have hs := hs.1 c16
            refine wp_iload 7 dX1_turnings_66 rfl ?_
            refine wp_istore_n (ls' := [(0, .ref 31), (1, .int x1), (2, .int (nI 1)), (3, .int x3), (4, .int x4), (5, .int x5), (6, .int v6), (7, .int (nI 1))]) [1, 2, 0, 3, 4, 5, 6, 7] dX1_turnings_68 rfl (by decide) ?_
            refine wp_iload_n 1 dX1_turnings_69 rfl ?_
            refine wp_iconst (v := (nI 1)) dX1_turnings_70 (by decide) ?_
            refine wp_iload 6 dX1_turnings_71 rfl ?_
            refine wp_ishl dX1_turnings_73 ?_
            refine wp_ior dX1_turnings_74 ?_
            refine wp_topi (fun y17 ey17 => ?_)
            have hs := hs y17 ey17
            refine wp_istore_n (ls' := [(0, .ref 31), (1, .int y17), (2, .int (nI 1)), (3, .int x3), (4, .int x4), (5, .int x5), (6, .int v6), (7, .int (nI 1))]) [1, 0, 2, 3, 4, 5, 6, 7] dX1_turnings_75 rfl (by decide) ?_
            obtain ⟨y18, ey18⟩ : ∃ y : Int32, y = x5 + (nI 1) := ⟨_, rfl⟩
            have hs := hs y18 ey18
            refine wp_iinc (v := y18) (ls' := [(0, .ref 31), (1, .int y17), (2, .int (nI 1)), (3, .int x3), (4, .int x4), (5, .int y18), (6, .int v6), (7, .int (nI 1))]) 5 [1, 2, 3, 4, 5, 0, 6, 7] dX1_turnings_76 rfl (by rw [ey18]; rfl) rfl (by decide) ?_
            refine wp_goto (tgt := 14) dX1_turnings_79 (by decide) ?_
            refine wp_sub (ls' := [(0, .ref 31), (1, .int y17), (2, .int (nI 1)), (3, .int x3), (4, .int x4), (5, .int y18)]) [0, 1, 2, 3, 4, 5] rfl ?_
            exact ih _ _ _ _ _ hs
          · have hs := hs.2 c16
            obtain ⟨y19, ey19⟩ : ∃ y : Int32, y = x4 + (nI 1) := ⟨_, rfl⟩
            have hs := hs y19 ey19
            refine wp_iinc (v := y19) (ls' := [(0, .ref 31), (1, .int x1), (2, .int x2), (3, .int x3), (4, .int y19), (5, .int x5), (6, .int v6), (7, .int (nI 1))]) 4 [1, 2, 3, 4, 0, 5, 6, 7] dX1_turnings_63 rfl (by rw [ey19]; rfl) rfl (by decide) ?_
            refine wp_iload 7 dX1_turnings_66 rfl ?_
            refine wp_istore_n (ls' := [(0, .ref 31), (1, .int x1), (2, .int (nI 1)), (3, .int x3), (4, .int y19), (5, .int x5), (6, .int v6), (7, .int (nI 1))]) [1, 2, 0, 3, 4, 5, 6, 7] dX1_turnings_68 rfl (by decide) ?_
            refine wp_iload_n 1 dX1_turnings_69 rfl ?_
            refine wp_iconst (v := (nI 1)) dX1_turnings_70 (by decide) ?_
            refine wp_iload 6 dX1_turnings_71 rfl ?_
            refine wp_ishl dX1_turnings_73 ?_
            refine wp_ior dX1_turnings_74 ?_
            refine wp_topi (fun y20 ey20 => ?_)
            have hs := hs y20 ey20
            refine wp_istore_n (ls' := [(0, .ref 31), (1, .int y20), (2, .int (nI 1)), (3, .int x3), (4, .int y19), (5, .int x5), (6, .int v6), (7, .int (nI 1))]) [1, 0, 2, 3, 4, 5, 6, 7] dX1_turnings_75 rfl (by decide) ?_
            obtain ⟨y21, ey21⟩ : ∃ y : Int32, y = x5 + (nI 1) := ⟨_, rfl⟩
            have hs := hs y21 ey21
            refine wp_iinc (v := y21) (ls' := [(0, .ref 31), (1, .int y20), (2, .int (nI 1)), (3, .int x3), (4, .int y19), (5, .int y21), (6, .int v6), (7, .int (nI 1))]) 5 [1, 2, 3, 4, 5, 0, 6, 7] dX1_turnings_76 rfl (by rw [ey21]; rfl) rfl (by decide) ?_
            refine wp_goto (tgt := 14) dX1_turnings_79 (by decide) ?_
            refine wp_sub (ls' := [(0, .ref 31), (1, .int y20), (2, .int (nI 1)), (3, .int x3), (4, .int y19), (5, .int y21)]) [0, 1, 2, 3, 4, 5] rfl ?_
            exact ih _ _ _ _ _ hs
def w_X1_turnings (a : Int32) (b : Int32) (M : Nat → Nat → Int32) (Q : Int32 → (Nat → Nat → Int32) → Prop) : Prop := w_X4_allBends 40 M (fun v2 M1 => w_X1_turnings_14 FU a b v2 (nI 0) (nI 0) M1 (fun y22 y23 y24 y25 M26 => Q y24 M26))
set_option maxHeartbeats 4000000 in
set_option maxRecDepth 100000 in
theorem mw_X1_turnings {E : EN} {a : Int32} {b : Int32} {M : Nat → Nat → Int32} {Q : Int32 → (Nat → Nat → Int32) → Prop} (hs : w_X1_turnings a b M Q) : MW E iX1_turnings 3 0 0 false [.ref 31, .int a, .int b] σC 46 M (qI σC 46 Q) := by
  refine mw_intro (ls := [(0, .ref 31), (1, .int a), (2, .int b)]) rfl (by decide +kernel) rfl rfl (Nat.le_of_ble_eq_true rfl) ?_
  have hQ : ∀ x M, Q x M → (qI σC 46 Q) (some (.int x)) σC 46 M := fun _ _ h => ⟨_, rfl, rfl, rfl, h⟩
  generalize (qI σC 46 Q) = Qf at hQ ⊢
  unfold w_X1_turnings at hs
  refine wp_aload_n 0 dX1_turnings_0 rfl ?_
  refine wp_get (v := .ref 40) dX1_turnings_1 rfl (by decide) rfl in_X1_turnings_X1 1 (by decide) fl_X1_turnings_21 rfl rfl ?_
  refine wp_cVi (As := []) (st := []) (mw_X4_allBends (by decide) hs) gX1_turnings_X4_allBends rfl hy_X4_allBends rfl (σ_isS (by decide)) (lt_isS (by decide)) rfl (by decide) (by decide) (Nat.le_of_ble_eq_true rfl) rfl dX1_turnings_4 (fun v2 M1 hs => ?_)
  refine wp_istore_n (ls' := [(0, .ref 31), (1, .int a), (2, .int b), (3, .int v2)]) [1, 2, 3, 0] dX1_turnings_7 rfl (by decide) ?_
  refine wp_iconst (v := (nI 0)) dX1_turnings_8 (by decide) ?_
  refine wp_istore (ls' := [(0, .ref 31), (1, .int a), (2, .int b), (3, .int v2), (4, .int (nI 0))]) [1, 2, 3, 4, 0] dX1_turnings_9 rfl (by decide) ?_
  refine wp_iconst (v := (nI 0)) dX1_turnings_11 (by decide) ?_
  refine wp_istore (ls' := [(0, .ref 31), (1, .int a), (2, .int b), (3, .int v2), (4, .int (nI 0)), (5, .int (nI 0))]) [1, 2, 3, 4, 5, 0] dX1_turnings_12 rfl (by decide) ?_
  refine wp_sub (ls' := [(0, .ref 31), (1, .int a), (2, .int b), (3, .int v2), (4, .int (nI 0)), (5, .int (nI 0))]) [0, 1, 2, 3, 4, 5] rfl ?_
  refine lp_X1_turnings_14 (K := fun y22 y23 y24 y25 M26 => Q y24 M26) (fun y22 y23 y24 y25 M26 hs => ?_) FU _ _ _ _ _ hs
  refine wp_iload 0 dX1_turnings_82 rfl ?_
  exact wp_ireturn rfl rfl dX1_turnings_84 (hQ _ _ hs)
abbrev iX1_reachFrom : MI := (cX1_reachFrom, 5, none, RX1, yX1_reachFrom, wsX1_reachFrom)
theorem hy_X1_reachFrom : yX1_reachFrom.cls = RX1 ∧ yX1_reachFrom.cls ≠ "java/lang/invoke/MethodHandle" ∧ yX1_reachFrom.cls ≠ "java/lang/invoke/VarHandle" ∧ (parseMethodDescriptor yX1_reachFrom.desc).map (fun d => d.parameters.length) = some 2 := by decide +kernel
theorem in_X1_reachFrom_X1 : ∀ w ∈ u_ws RX1 TX1 6, w ∈ wsX1_reachFrom := by decide +kernel
theorem in_X1_reachFrom_X4 : ∀ w ∈ u_ws RX4 TX4 7, w ∈ wsX1_reachFrom := by decide +kernel
theorem fl_X1_reachFrom_21 : Cond.fieldLink RX1 21 (TX1 1).1 (TX1 1).2.1 (TX1 1).2.2.1 ∈ wsX1_reachFrom := by decide +kernel
theorem fl_X1_reachFrom_36 : Cond.fieldLink RX1 36 (TX1 5).1 (TX1 5).2.1 (TX1 5).2.2.1 ∈ wsX1_reachFrom := by decide +kernel
theorem fl_X1_reachFrom_62 : Cond.fieldLink RX1 62 (TX4 0).1 (TX4 0).2.1 (TX4 0).2.2.1 ∈ wsX1_reachFrom := by decide +kernel
def w_X1_reachFrom_2 : Nat → Int32 → Int32 → Int32 → (Nat → Nat → Int32) → (Int32 → (Nat → Nat → Int32) → Prop) → Prop
  | 0, _, _, _, _, _ => False
  | n + 1, x1, x2, x3, M, K => (((M 40 0) ≤ x3 → K x3 M) ∧ (¬ (M 40 0) ≤ x3 → ∀ y2 : Int32, y2 = (x1 ||| ((nI 1) <<< (x3 &&& 31))) → ((¬ ((x2 >>> (x3 &&& 31)) &&& (nI 1)) = (nI 1) → ∀ y4 : Int32, y4 = x3 + (nI 1) → w_X1_reachFrom_2 n x1 x2 y4 M K) ∧ (((x2 >>> (x3 &&& 31)) &&& (nI 1)) = (nI 1) → ((y2 < 0 → ∀ y6 : Int32, y6 = x3 + (nI 1) → w_X1_reachFrom_2 n x1 x2 y6 M K) ∧ (¬ y2 < 0 → (((nI 128) ≤ y2 → ∀ y8 : Int32, y8 = x3 + (nI 1) → w_X1_reachFrom_2 n x1 x2 y8 M K) ∧ (¬ (nI 128) ≤ y2 → (vp_in y2 128 ∧ ∀ M9 : Nat → Nat → Int32, M9 = um M 45 (upd (M 45) y2.toNatClampNeg (vp_nar .boolean (nI 1))) → ∀ y10 : Int32, y10 = x3 + (nI 1) → w_X1_reachFrom_2 n x1 x2 y10 M9 K)))))))))
set_option maxHeartbeats 4000000 in
set_option maxRecDepth 100000 in
theorem lp_X1_reachFrom_2 {E : EN} {x1 : Int32} {x2 : Int32} {Qf : PST} {K : Int32 → (Nat → Nat → Int32) → Prop} (hK : ∀ (z3 : Int32) (M : Nat → Nat → Int32), K z3 M → WP E iX1_reachFrom 1 0 0 false 58 [] [] σC 46 M Qf) : ∀ (nn : Nat) (x3 : Int32) (M : Nat → Nat → Int32), w_X1_reachFrom_2 nn x1 x2 x3 M K → WP E iX1_reachFrom 1 0 0 false 2 [(0, .ref 31), (1, .int x1), (2, .int x2), (3, .int x3)] [] σC 46 M Qf := by
  intro nn
  induction nn with
  | zero => intro x3 M hs; exact hs.elim
  | succ n ih =>
    intro x3 M hs
    unfold w_X1_reachFrom_2 at hs
    refine wp_iload_n 3 dX1_reachFrom_2 rfl ?_
    refine wp_aload_n 0 dX1_reachFrom_3 rfl ?_
    refine wp_get (v := .ref 40) dX1_reachFrom_4 rfl (by decide) rfl in_X1_reachFrom_X1 1 (by decide) fl_X1_reachFrom_21 rfl rfl ?_
    refine wp_get (v := .int (M 40 0)) dX1_reachFrom_7 (σ_isS (by decide)) (lt_isS (by decide)) rfl in_X1_reachFrom_X4 0 (by decide) fl_X1_reachFrom_62 rfl rfl ?_
    refine wp_icmp_ge (tgt := 58) dX1_reachFrom_10 (by decide) (fun c1 => ?_) (fun c1 => ?_)
    · have hs := hs.1 c1
      refine wp_sub (ls' := []) [] rfl ?_
      exact hK _ _ hs
    · have hs := hs.2 c1
      refine wp_iload_n 1 dX1_reachFrom_13 rfl ?_
      refine wp_iconst (v := (nI 1)) dX1_reachFrom_14 (by decide) ?_
      refine wp_iload_n 3 dX1_reachFrom_15 rfl ?_
      refine wp_ishl dX1_reachFrom_16 ?_
      refine wp_ior dX1_reachFrom_17 ?_
      refine wp_topi (fun y2 ey2 => ?_)
      have hs := hs y2 ey2
      refine wp_istore (ls' := [(0, .ref 31), (1, .int x1), (2, .int x2), (3, .int x3), (4, .int y2)]) [1, 2, 3, 4, 0] dX1_reachFrom_18 rfl (by decide) ?_
      refine wp_iload_n 2 dX1_reachFrom_20 rfl ?_
      refine wp_iload_n 3 dX1_reachFrom_21 rfl ?_
      refine wp_ishr dX1_reachFrom_22 ?_
      refine wp_iconst (v := (nI 1)) dX1_reachFrom_23 (by decide) ?_
      refine wp_iand dX1_reachFrom_24 ?_
      refine wp_iconst (v := (nI 1)) dX1_reachFrom_25 (by decide) ?_
      refine wp_icmp_ne (tgt := 52) dX1_reachFrom_26 (by decide) (fun c3 => ?_) (fun c3 => ?_)
      · have hs := hs.1 c3
        obtain ⟨y4, ey4⟩ : ∃ y : Int32, y = x3 + (nI 1) := ⟨_, rfl⟩
        have hs := hs y4 ey4
        refine wp_iinc (v := y4) (ls' := [(0, .ref 31), (1, .int x1), (2, .int x2), (3, .int y4), (4, .int y2)]) 3 [1, 2, 3, 0, 4] dX1_reachFrom_52 rfl (by rw [ey4]; rfl) rfl (by decide) ?_
        refine wp_goto (tgt := 2) dX1_reachFrom_55 (by decide) ?_
        refine wp_sub (ls' := [(0, .ref 31), (1, .int x1), (2, .int x2), (3, .int y4)]) [0, 1, 2, 3] rfl ?_
        exact ih _ _ hs
      · have hs := hs.2 c3
        refine wp_iload 4 dX1_reachFrom_29 rfl ?_
        refine wp_if_lt (tgt := 52) dX1_reachFrom_31 (by decide) (fun c5 => ?_) (fun c5 => ?_)
        · have hs := hs.1 c5
          obtain ⟨y6, ey6⟩ : ∃ y : Int32, y = x3 + (nI 1) := ⟨_, rfl⟩
          have hs := hs y6 ey6
          refine wp_iinc (v := y6) (ls' := [(0, .ref 31), (1, .int x1), (2, .int x2), (3, .int y6), (4, .int y2)]) 3 [1, 2, 3, 0, 4] dX1_reachFrom_52 rfl (by rw [ey6]; rfl) rfl (by decide) ?_
          refine wp_goto (tgt := 2) dX1_reachFrom_55 (by decide) ?_
          refine wp_sub (ls' := [(0, .ref 31), (1, .int x1), (2, .int x2), (3, .int y6)]) [0, 1, 2, 3] rfl ?_
          exact ih _ _ hs
        · have hs := hs.2 c5
          refine wp_iload 4 dX1_reachFrom_34 rfl ?_
          refine wp_aload_n 0 dX1_reachFrom_36 rfl ?_
          refine wp_get (v := .ref 45) dX1_reachFrom_37 rfl (by decide) rfl in_X1_reachFrom_X1 5 (by decide) fl_X1_reachFrom_36 rfl rfl ?_
          refine wp_alen (v := nI 128) rfl (by decide) (by decide) (by decide) dX1_reachFrom_40 ?_
          refine wp_icmp_ge (tgt := 52) dX1_reachFrom_41 (by decide) (fun c7 => ?_) (fun c7 => ?_)
          · have hs := hs.1 c7
            obtain ⟨y8, ey8⟩ : ∃ y : Int32, y = x3 + (nI 1) := ⟨_, rfl⟩
            have hs := hs y8 ey8
            refine wp_iinc (v := y8) (ls' := [(0, .ref 31), (1, .int x1), (2, .int x2), (3, .int y8), (4, .int y2)]) 3 [1, 2, 3, 0, 4] dX1_reachFrom_52 rfl (by rw [ey8]; rfl) rfl (by decide) ?_
            refine wp_goto (tgt := 2) dX1_reachFrom_55 (by decide) ?_
            refine wp_sub (ls' := [(0, .ref 31), (1, .int x1), (2, .int x2), (3, .int y8)]) [0, 1, 2, 3] rfl ?_
            exact ih _ _ hs
          · have hs := hs.2 c7
            refine wp_aload_n 0 dX1_reachFrom_44 rfl ?_
            refine wp_get (v := .ref 45) dX1_reachFrom_45 rfl (by decide) rfl in_X1_reachFrom_X1 5 (by decide) fl_X1_reachFrom_36 rfl rfl ?_
            refine wp_iload 4 dX1_reachFrom_48 rfl ?_
            refine wp_iconst (v := (nI 1)) dX1_reachFrom_50 (by decide) ?_
            have hv := hs.1
            have hs := hs.2
            refine wp_zast rfl (by decide) hv dX1_reachFrom_51 (fun M9 eM9 => ?_)
            have hs := hs M9 eM9
            obtain ⟨y10, ey10⟩ : ∃ y : Int32, y = x3 + (nI 1) := ⟨_, rfl⟩
            have hs := hs y10 ey10
            refine wp_iinc (v := y10) (ls' := [(0, .ref 31), (1, .int x1), (2, .int x2), (3, .int y10), (4, .int y2)]) 3 [1, 2, 3, 0, 4] dX1_reachFrom_52 rfl (by rw [ey10]; rfl) rfl (by decide) ?_
            refine wp_goto (tgt := 2) dX1_reachFrom_55 (by decide) ?_
            refine wp_sub (ls' := [(0, .ref 31), (1, .int x1), (2, .int x2), (3, .int y10)]) [0, 1, 2, 3] rfl ?_
            exact ih _ _ hs
def w_X1_reachFrom (a : Int32) (b : Int32) (M : Nat → Nat → Int32) (Q : (Nat → Nat → Int32) → Prop) : Prop := w_X1_reachFrom_2 FU a b (nI 0) M (fun y11 M12 => Q M12)
set_option maxHeartbeats 4000000 in
set_option maxRecDepth 100000 in
theorem mw_X1_reachFrom {E : EN} {a : Int32} {b : Int32} {M : Nat → Nat → Int32} {Q : (Nat → Nat → Int32) → Prop} (hs : w_X1_reachFrom a b M Q) : MW E iX1_reachFrom 1 0 0 false [.ref 31, .int a, .int b] σC 46 M (qV σC 46 Q) := by
  refine mw_intro (ls := [(0, .ref 31), (1, .int a), (2, .int b)]) rfl (by decide +kernel) rfl rfl (Nat.le_of_ble_eq_true rfl) ?_
  have hQ : ∀ M, Q M → (qV σC 46 Q) none σC 46 M := fun _ h => ⟨rfl, rfl, rfl, h⟩
  generalize (qV σC 46 Q) = Qf at hQ ⊢
  unfold w_X1_reachFrom at hs
  refine wp_iconst (v := (nI 0)) dX1_reachFrom_0 (by decide) ?_
  refine wp_istore_n (ls' := [(0, .ref 31), (1, .int a), (2, .int b), (3, .int (nI 0))]) [1, 2, 3, 0] dX1_reachFrom_1 rfl (by decide) ?_
  refine wp_sub (ls' := [(0, .ref 31), (1, .int a), (2, .int b), (3, .int (nI 0))]) [0, 1, 2, 3] rfl ?_
  refine lp_X1_reachFrom_2 (K := fun y11 M12 => Q M12) (fun y11 M12 hs => ?_) FU _ _ hs
  exact wp_return rfl dX1_reachFrom_58 (hQ _ hs)
abbrev iX1_canPrecede : MI := (cX1_canPrecede, 6, some .boolean, RX1, yX1_canPrecede, wsX1_canPrecede)
theorem hy_X1_canPrecede : yX1_canPrecede.cls = RX1 ∧ yX1_canPrecede.cls ≠ "java/lang/invoke/MethodHandle" ∧ yX1_canPrecede.cls ≠ "java/lang/invoke/VarHandle" ∧ (parseMethodDescriptor yX1_canPrecede.desc).map (fun d => d.parameters.length) = some 3 := by decide +kernel
theorem in_X1_canPrecede_X1 : ∀ w ∈ u_ws RX1 TX1 6, w ∈ wsX1_canPrecede := by decide +kernel
theorem fl_X1_canPrecede_36 : Cond.fieldLink RX1 36 (TX1 5).1 (TX1 5).2.1 (TX1 5).2.2.1 ∈ wsX1_canPrecede := by decide +kernel
def w_X1_canPrecede_3 : Nat → Int32 → Int32 → Int32 → Int32 → (Nat → Nat → Int32) → (Int32 → (Nat → Nat → Int32) → Prop) → Prop
  | 0, _, _, _, _, _, _ => False
  | n + 1, x1, x2, x3, x4, M, K => (((nI 128) ≤ x4 → K x4 M) ∧ (¬ (nI 128) ≤ x4 → ((¬ x4 = x1 → (vp_in x4 128 ∧ ∀ M3 : Nat → Nat → Int32, M3 = um M 45 (upd (M 45) x4.toNatClampNeg (vp_nar .boolean (nI 0))) → ∀ y4 : Int32, y4 = x4 + (nI 1) → w_X1_canPrecede_3 n x1 x2 x3 y4 M3 K)) ∧ (x4 = x1 → (vp_in x4 128 ∧ ∀ M5 : Nat → Nat → Int32, M5 = um M 45 (upd (M 45) x4.toNatClampNeg (vp_nar .boolean (nI 1))) → ∀ y6 : Int32, y6 = x4 + (nI 1) → w_X1_canPrecede_3 n x1 x2 x3 y6 M5 K)))))
set_option maxHeartbeats 4000000 in
set_option maxRecDepth 100000 in
theorem lp_X1_canPrecede_3 {E : EN} {x1 : Int32} {x2 : Int32} {x3 : Int32} {Qf : PST} {K : Int32 → (Nat → Nat → Int32) → Prop} (hK : ∀ (z4 : Int32) (M : Nat → Nat → Int32), K z4 M → WP E iX1_canPrecede 2 0 0 false 37 [(0, .ref 31), (1, .int x1), (2, .int x2), (3, .int x3)] [] σC 46 M Qf) : ∀ (nn : Nat) (x4 : Int32) (M : Nat → Nat → Int32), w_X1_canPrecede_3 nn x1 x2 x3 x4 M K → WP E iX1_canPrecede 2 0 0 false 3 [(0, .ref 31), (1, .int x1), (2, .int x2), (3, .int x3), (4, .int x4)] [] σC 46 M Qf := by
  intro nn
  induction nn with
  | zero => intro x4 M hs; exact hs.elim
  | succ n ih =>
    intro x4 M hs
    unfold w_X1_canPrecede_3 at hs
    refine wp_iload 4 dX1_canPrecede_3 rfl ?_
    refine wp_aload_n 0 dX1_canPrecede_5 rfl ?_
    refine wp_get (v := .ref 45) dX1_canPrecede_6 rfl (by decide) rfl in_X1_canPrecede_X1 5 (by decide) fl_X1_canPrecede_36 rfl rfl ?_
    refine wp_alen (v := nI 128) rfl (by decide) (by decide) (by decide) dX1_canPrecede_9 ?_
    refine wp_icmp_ge (tgt := 37) dX1_canPrecede_10 (by decide) (fun c1 => ?_) (fun c1 => ?_)
    · have hs := hs.1 c1
      refine wp_sub (ls' := [(0, .ref 31), (1, .int x1), (2, .int x2), (3, .int x3)]) [0, 1, 2, 3] rfl ?_
      exact hK _ _ hs
    · have hs := hs.2 c1
      refine wp_aload_n 0 dX1_canPrecede_13 rfl ?_
      refine wp_get (v := .ref 45) dX1_canPrecede_14 rfl (by decide) rfl in_X1_canPrecede_X1 5 (by decide) fl_X1_canPrecede_36 rfl rfl ?_
      refine wp_iload 4 dX1_canPrecede_17 rfl ?_
      refine wp_iload 4 dX1_canPrecede_19 rfl ?_
      refine wp_iload_n 1 dX1_canPrecede_21 rfl ?_
      refine wp_icmp_ne (tgt := 29) dX1_canPrecede_22 (by decide) (fun c2 => ?_) (fun c2 => ?_)
      · have hs := hs.1 c2
        refine wp_iconst (v := (nI 0)) dX1_canPrecede_29 (by decide) ?_
        have hv := hs.1
        have hs := hs.2
        refine wp_zast rfl (by decide) hv dX1_canPrecede_30 (fun M3 eM3 => ?_)
        have hs := hs M3 eM3
        obtain ⟨y4, ey4⟩ : ∃ y : Int32, y = x4 + (nI 1) := ⟨_, rfl⟩
        have hs := hs y4 ey4
        refine wp_iinc (v := y4) (ls' := [(0, .ref 31), (1, .int x1), (2, .int x2), (3, .int x3), (4, .int y4)]) 4 [1, 2, 3, 4, 0] dX1_canPrecede_31 rfl (by rw [ey4]; rfl) rfl (by decide) ?_
        refine wp_goto (tgt := 3) dX1_canPrecede_34 (by decide) ?_
        refine wp_sub (ls' := [(0, .ref 31), (1, .int x1), (2, .int x2), (3, .int x3), (4, .int y4)]) [0, 1, 2, 3, 4] rfl ?_
        exact ih _ _ hs
      · have hs := hs.2 c2
        refine wp_iconst (v := (nI 1)) dX1_canPrecede_25 (by decide) ?_
        refine wp_goto (tgt := 30) dX1_canPrecede_26 (by decide) ?_
        have hv := hs.1
        have hs := hs.2
        refine wp_zast rfl (by decide) hv dX1_canPrecede_30 (fun M5 eM5 => ?_)
        have hs := hs M5 eM5
        obtain ⟨y6, ey6⟩ : ∃ y : Int32, y = x4 + (nI 1) := ⟨_, rfl⟩
        have hs := hs y6 ey6
        refine wp_iinc (v := y6) (ls' := [(0, .ref 31), (1, .int x1), (2, .int x2), (3, .int x3), (4, .int y6)]) 4 [1, 2, 3, 4, 0] dX1_canPrecede_31 rfl (by rw [ey6]; rfl) rfl (by decide) ?_
        refine wp_goto (tgt := 3) dX1_canPrecede_34 (by decide) ?_
        refine wp_sub (ls' := [(0, .ref 31), (1, .int x1), (2, .int x2), (3, .int x3), (4, .int y6)]) [0, 1, 2, 3, 4] rfl ?_
        exact ih _ _ hs
def w_X1_canPrecede_44 : Nat → Int32 → Int32 → Int32 → (Nat → Nat → Int32) → (Int32 → (Nat → Nat → Int32) → Prop) → (Int32 → (Nat → Nat → Int32) → Prop) → Prop
  | 0, _, _, _, _, _, _ => False
  | n + 1, x2, x3, x4, M, Q, K => (((nI 128) ≤ x4 → K x4 M) ∧ (¬ (nI 128) ≤ x4 → (vp_in x4 128 ∧ (((M 45 x4.toNatClampNeg) = 0 → ((¬ (((nI 0) >>> (x2 &&& 31)) &&& (nI 1)) = (nI 1) → w_X1_reachFrom x4 ((nI 0) &&& (((nI 1) <<< (x3 &&& 31)) ^^^ (-1 : Int32))) M (fun M13 => ∀ y14 : Int32, y14 = x4 + (nI 1) → w_X1_canPrecede_44 n x2 x3 y14 M13 Q K)) ∧ ((((nI 0) >>> (x2 &&& 31)) &&& (nI 1)) = (nI 1) → Q (nI 1) M))) ∧ (¬ (M 45 x4.toNatClampNeg) = 0 → w_X1_stepsFrom x4 M (fun v16 M15 => ((¬ ((v16 >>> (x2 &&& 31)) &&& (nI 1)) = (nI 1) → w_X1_reachFrom x4 (v16 &&& (((nI 1) <<< (x3 &&& 31)) ^^^ (-1 : Int32))) M15 (fun M18 => ∀ y19 : Int32, y19 = x4 + (nI 1) → w_X1_canPrecede_44 n x2 x3 y19 M18 Q K)) ∧ (((v16 >>> (x2 &&& 31)) &&& (nI 1)) = (nI 1) → Q (nI 1) M15))))))))
set_option maxHeartbeats 4000000 in
set_option maxRecDepth 100000 in
theorem lp_X1_canPrecede_44 {E : EN} {x2 : Int32} {x3 : Int32} {Qf : PST} {Q : Int32 → (Nat → Nat → Int32) → Prop} {K : Int32 → (Nat → Nat → Int32) → Prop} (hQ : ∀ x M, Q x M → Qf (some (.int x)) σC 46 M) (hK : ∀ (z4 : Int32) (M : Nat → Nat → Int32), K z4 M → WP E iX1_canPrecede 2 0 0 false 108 [] [] σC 46 M Qf) : ∀ (nn : Nat) (x4 : Int32) (M : Nat → Nat → Int32), w_X1_canPrecede_44 nn x2 x3 x4 M Q K → WP E iX1_canPrecede 2 0 0 false 44 [(0, .ref 31), (2, .int x2), (3, .int x3), (4, .int x4)] [] σC 46 M Qf := by
  intro nn
  induction nn with
  | zero => intro x4 M hs; exact hs.elim
  | succ n ih =>
    intro x4 M hs
    unfold w_X1_canPrecede_44 at hs
    refine wp_iload 3 dX1_canPrecede_44 rfl ?_
    refine wp_aload_n 0 dX1_canPrecede_46 rfl ?_
    refine wp_get (v := .ref 45) dX1_canPrecede_47 rfl (by decide) rfl in_X1_canPrecede_X1 5 (by decide) fl_X1_canPrecede_36 rfl rfl ?_
    refine wp_alen (v := nI 128) rfl (by decide) (by decide) (by decide) dX1_canPrecede_50 ?_
    refine wp_icmp_ge (tgt := 108) dX1_canPrecede_51 (by decide) (fun c10 => ?_) (fun c10 => ?_)
    · have hs := hs.1 c10
      refine wp_sub (ls' := []) [] rfl ?_
      exact hK _ _ hs
    · have hs := hs.2 c10
      refine wp_aload_n 0 dX1_canPrecede_54 rfl ?_
      refine wp_get (v := .ref 45) dX1_canPrecede_55 rfl (by decide) rfl in_X1_canPrecede_X1 5 (by decide) fl_X1_canPrecede_36 rfl rfl ?_
      refine wp_iload 3 dX1_canPrecede_58 rfl ?_
      have hv := hs.1
      have hs := hs.2
      refine wp_zald rfl (by decide) hv dX1_canPrecede_60 ?_
      refine wp_if_eq (tgt := 73) dX1_canPrecede_61 (by decide) (fun c11 => ?_) (fun c11 => ?_)
      · have hs := hs.1 c11
        refine wp_iconst (v := (nI 0)) dX1_canPrecede_73 (by decide) ?_
        refine wp_istore (ls' := [(0, .ref 31), (2, .int x2), (3, .int x3), (4, .int x4), (5, .int (nI 0))]) [1, 2, 3, 4, 0] dX1_canPrecede_74 rfl (by decide) ?_
        refine wp_iload 4 dX1_canPrecede_76 rfl ?_
        refine wp_iload_n 1 dX1_canPrecede_78 rfl ?_
        refine wp_ishr dX1_canPrecede_79 ?_
        refine wp_iconst (v := (nI 1)) dX1_canPrecede_80 (by decide) ?_
        refine wp_iand dX1_canPrecede_81 ?_
        refine wp_iconst (v := (nI 1)) dX1_canPrecede_82 (by decide) ?_
        refine wp_icmp_ne (tgt := 88) dX1_canPrecede_83 (by decide) (fun c12 => ?_) (fun c12 => ?_)
        · have hs := hs.1 c12
          refine wp_aload_n 0 dX1_canPrecede_88 rfl ?_
          refine wp_iload 3 dX1_canPrecede_89 rfl ?_
          refine wp_iload 4 dX1_canPrecede_91 rfl ?_
          refine wp_iconst (v := (nI 1)) dX1_canPrecede_93 (by decide) ?_
          refine wp_iload_n 2 dX1_canPrecede_94 rfl ?_
          refine wp_ishl dX1_canPrecede_95 ?_
          refine wp_iconst (v := (-1 : Int32)) dX1_canPrecede_96 (by decide) ?_
          refine wp_ixor dX1_canPrecede_97 ?_
          refine wp_iand dX1_canPrecede_98 ?_
          refine wp_cVv (As := [.int x4, .int ((nI 0) &&& (((nI 1) <<< (x3 &&& 31)) ^^^ (-1 : Int32)))]) (st := []) (mw_X1_reachFrom  hs) gX1_canPrecede_X1_reachFrom rfl hy_X1_reachFrom rfl rfl (by decide) rfl (by decide) (by decide) (Nat.le_of_ble_eq_true rfl) rfl dX1_canPrecede_99 (fun  M13 hs => ?_)
          obtain ⟨y14, ey14⟩ : ∃ y : Int32, y = x4 + (nI 1) := ⟨_, rfl⟩
          have hs := hs y14 ey14
          refine wp_iinc (v := y14) (ls' := [(0, .ref 31), (2, .int x2), (3, .int x3), (4, .int y14), (5, .int (nI 0))]) 3 [1, 2, 3, 0, 4] dX1_canPrecede_102 rfl (by rw [ey14]; rfl) rfl (by decide) ?_
          refine wp_goto (tgt := 44) dX1_canPrecede_105 (by decide) ?_
          refine wp_sub (ls' := [(0, .ref 31), (2, .int x2), (3, .int x3), (4, .int y14)]) [0, 1, 2, 3] rfl ?_
          exact ih _ _ hs
        · have hs := hs.2 c12
          refine wp_iconst (v := (nI 1)) dX1_canPrecede_86 (by decide) ?_
          exact wp_ireturn rfl rfl dX1_canPrecede_87 (hQ _ _ hs)
      · have hs := hs.2 c11
        refine wp_aload_n 0 dX1_canPrecede_64 rfl ?_
        refine wp_iload 3 dX1_canPrecede_65 rfl ?_
        refine wp_cVi (As := [.int x4]) (st := []) (mw_X1_stepsFrom  hs) gX1_canPrecede_X1_stepsFrom rfl hy_X1_stepsFrom rfl rfl (by decide) rfl (by decide) (by decide) (Nat.le_of_ble_eq_true rfl) rfl dX1_canPrecede_67 (fun v16 M15 hs => ?_)
        refine wp_goto (tgt := 74) dX1_canPrecede_70 (by decide) ?_
        refine wp_istore (ls' := [(0, .ref 31), (2, .int x2), (3, .int x3), (4, .int x4), (5, .int v16)]) [1, 2, 3, 4, 0] dX1_canPrecede_74 rfl (by decide) ?_
        refine wp_iload 4 dX1_canPrecede_76 rfl ?_
        refine wp_iload_n 1 dX1_canPrecede_78 rfl ?_
        refine wp_ishr dX1_canPrecede_79 ?_
        refine wp_iconst (v := (nI 1)) dX1_canPrecede_80 (by decide) ?_
        refine wp_iand dX1_canPrecede_81 ?_
        refine wp_iconst (v := (nI 1)) dX1_canPrecede_82 (by decide) ?_
        refine wp_icmp_ne (tgt := 88) dX1_canPrecede_83 (by decide) (fun c17 => ?_) (fun c17 => ?_)
        · have hs := hs.1 c17
          refine wp_aload_n 0 dX1_canPrecede_88 rfl ?_
          refine wp_iload 3 dX1_canPrecede_89 rfl ?_
          refine wp_iload 4 dX1_canPrecede_91 rfl ?_
          refine wp_iconst (v := (nI 1)) dX1_canPrecede_93 (by decide) ?_
          refine wp_iload_n 2 dX1_canPrecede_94 rfl ?_
          refine wp_ishl dX1_canPrecede_95 ?_
          refine wp_iconst (v := (-1 : Int32)) dX1_canPrecede_96 (by decide) ?_
          refine wp_ixor dX1_canPrecede_97 ?_
          refine wp_iand dX1_canPrecede_98 ?_
          refine wp_cVv (As := [.int x4, .int (v16 &&& (((nI 1) <<< (x3 &&& 31)) ^^^ (-1 : Int32)))]) (st := []) (mw_X1_reachFrom  hs) gX1_canPrecede_X1_reachFrom rfl hy_X1_reachFrom rfl rfl (by decide) rfl (by decide) (by decide) (Nat.le_of_ble_eq_true rfl) rfl dX1_canPrecede_99 (fun  M18 hs => ?_)
          obtain ⟨y19, ey19⟩ : ∃ y : Int32, y = x4 + (nI 1) := ⟨_, rfl⟩
          have hs := hs y19 ey19
          refine wp_iinc (v := y19) (ls' := [(0, .ref 31), (2, .int x2), (3, .int x3), (4, .int y19), (5, .int v16)]) 3 [1, 2, 3, 0, 4] dX1_canPrecede_102 rfl (by rw [ey19]; rfl) rfl (by decide) ?_
          refine wp_goto (tgt := 44) dX1_canPrecede_105 (by decide) ?_
          refine wp_sub (ls' := [(0, .ref 31), (2, .int x2), (3, .int x3), (4, .int y19)]) [0, 1, 2, 3] rfl ?_
          exact ih _ _ hs
        · have hs := hs.2 c17
          refine wp_iconst (v := (nI 1)) dX1_canPrecede_86 (by decide) ?_
          exact wp_ireturn rfl rfl dX1_canPrecede_87 (hQ _ _ hs)
def w_X1_canPrecede (a : Int32) (b : Int32) (c : Int32) (M : Nat → Nat → Int32) (Q : Int32 → (Nat → Nat → Int32) → Prop) : Prop := w_X1_canPrecede_3 FU a b c (nI 0) M (fun y7 M8 => ∀ y9 : Int32, y9 = (if (nI 0) < a then a else (nI 0)) → w_X1_canPrecede_44 FU b c y9 M8 Q (fun y20 M21 => Q (nI 0) M21))
set_option maxHeartbeats 4000000 in
set_option maxRecDepth 100000 in
theorem mw_X1_canPrecede {E : EN} {a : Int32} {b : Int32} {c : Int32} {M : Nat → Nat → Int32} {Q : Int32 → (Nat → Nat → Int32) → Prop} (hs : w_X1_canPrecede a b c M Q) : MW E iX1_canPrecede 2 0 0 false [.ref 31, .int a, .int b, .int c] σC 46 M (qI σC 46 Q) := by
  refine mw_intro (ls := [(0, .ref 31), (1, .int a), (2, .int b), (3, .int c)]) rfl (by decide +kernel) rfl rfl (Nat.le_of_ble_eq_true rfl) ?_
  have hQ : ∀ x M, Q x M → (qI σC 46 Q) (some (.int x)) σC 46 M := fun _ _ h => ⟨_, rfl, rfl, rfl, h⟩
  generalize (qI σC 46 Q) = Qf at hQ ⊢
  unfold w_X1_canPrecede at hs
  refine wp_iconst (v := (nI 0)) dX1_canPrecede_0 (by decide) ?_
  refine wp_istore (ls' := [(0, .ref 31), (1, .int a), (2, .int b), (3, .int c), (4, .int (nI 0))]) [1, 2, 3, 4, 0] dX1_canPrecede_1 rfl (by decide) ?_
  refine wp_sub (ls' := [(0, .ref 31), (1, .int a), (2, .int b), (3, .int c), (4, .int (nI 0))]) [0, 1, 2, 3, 4] rfl ?_
  refine lp_X1_canPrecede_3 (K := fun y7 M8 => ∀ y9 : Int32, y9 = (if (nI 0) < a then a else (nI 0)) → w_X1_canPrecede_44 FU b c y9 M8 Q (fun y20 M21 => Q (nI 0) M21)) (fun y7 M8 hs => ?_) FU _ _ hs
  refine wp_iconst (v := (nI 0)) dX1_canPrecede_37 (by decide) ?_
  refine wp_iload_n 1 dX1_canPrecede_38 rfl ?_
  refine wp_mmax (by decide +kernel) (by decide +kernel) (by decide +kernel) (by decide +kernel) (by decide) (Nat.le_of_ble_eq_true rfl) dX1_canPrecede_39 ?_
  refine wp_topi (fun y9 ey9 => ?_)
  have hs := hs y9 ey9
  refine wp_istore (ls' := [(0, .ref 31), (1, .int a), (2, .int b), (3, .int c), (4, .int y9)]) [1, 2, 3, 4, 0] dX1_canPrecede_42 rfl (by decide) ?_
  refine wp_sub (ls' := [(0, .ref 31), (2, .int b), (3, .int c), (4, .int y9)]) [0, 2, 3, 4] rfl ?_
  refine lp_X1_canPrecede_44 hQ (K := fun y20 M21 => Q (nI 0) M21) (fun y20 M21 hs => ?_) FU _ _ hs
  refine wp_iconst (v := (nI 0)) dX1_canPrecede_108 (by decide) ?_
  exact wp_ireturn rfl rfl dX1_canPrecede_109 (hQ _ _ hs)
abbrev iX2_upperStrikers : MI := (cX2_upperStrikers, 6, some .int, RX2, yX2_upperStrikers, wsX2_upperStrikers)
theorem hy_X2_upperStrikers : yX2_upperStrikers.cls = RX2 ∧ yX2_upperStrikers.cls ≠ "java/lang/invoke/MethodHandle" ∧ yX2_upperStrikers.cls ≠ "java/lang/invoke/VarHandle" ∧ (parseMethodDescriptor yX2_upperStrikers.desc).map (fun d => d.parameters.length) = some 4 := by decide +kernel
theorem in_X2_upperStrikers_X2 : ∀ w ∈ u_ws RX2 TX2 1, w ∈ wsX2_upperStrikers := by decide +kernel
theorem fl_X2_upperStrikers_12 : Cond.fieldLink RX2 12 (TX2 0).1 (TX2 0).2.1 (TX2 0).2.2.1 ∈ wsX2_upperStrikers := by decide +kernel
def w_X2_upperStrikers (r0 : Nat) (r1 : Nat) (b : Int32) (c : Int32) (d : Int32) (M : Nat → Nat → Int32) (Q : Int32 → (Nat → Nat → Int32) → Prop) : Prop := w_X3_layFlat (r0 + 1) r1 b c d M (fun M1 => w_X2_inUpper r0 r1 M1 (fun v3 M2 => w_X3_swingUp (r0 + 1) b M2 (fun M4 => w_X2_inUpper r0 r1 M4 (fun v6 M5 => Q (v3 ||| v6) M5))))
set_option maxHeartbeats 4000000 in
set_option maxRecDepth 100000 in
theorem mw_X2_upperStrikers {E : EN} {r0 : Nat} {r1 : Nat} {b : Int32} {c : Int32} {d : Int32} {M : Nat → Nat → Int32} {Q : Int32 → (Nat → Nat → Int32) → Prop} (h0 : isP r0) (h1 : isS r1) (hs : w_X2_upperStrikers r0 r1 b c d M Q) : MW E iX2_upperStrikers 3 0 0 false [.ref r0, .ref r1, .int b, .int c, .int d] σC 46 M (qI σC 46 Q) := by
  refine mw_intro (ls := [(0, .ref r0), (1, .ref r1), (2, .int b), (3, .int c), (4, .int d)]) rfl (by decide +kernel) rfl rfl (Nat.le_of_ble_eq_true rfl) ?_
  have hQ : ∀ x M, Q x M → (qI σC 46 Q) (some (.int x)) σC 46 M := fun _ _ h => ⟨_, rfl, rfl, rfl, h⟩
  generalize (qI σC 46 Q) = Qf at hQ ⊢
  unfold w_X2_upperStrikers at hs
  refine wp_aload_n 0 dX2_upperStrikers_0 rfl ?_
  refine wp_get (v := .ref (r0 + 1)) dX2_upperStrikers_1 (σ_isP h0) (lt_isP h0) rfl in_X2_upperStrikers_X2 0 (by decide) fl_X2_upperStrikers_12 rfl rfl ?_
  refine wp_aload_n 1 dX2_upperStrikers_4 rfl ?_
  refine wp_iload_n 2 dX2_upperStrikers_5 rfl ?_
  refine wp_iload_n 3 dX2_upperStrikers_6 rfl ?_
  refine wp_iload 4 dX2_upperStrikers_7 rfl ?_
  refine wp_cVv (As := [.ref r1, .int b, .int c, .int d]) (st := []) (mw_X3_layFlat (isH_of h0) h1 hs) gX2_upperStrikers_X3_layFlat rfl hy_X3_layFlat rfl (σ_isH (isH_of h0)) (lt_isH (isH_of h0)) rfl (by decide) (by decide) (Nat.le_of_ble_eq_true rfl) rfl dX2_upperStrikers_9 (fun  M1 hs => ?_)
  refine wp_aload_n 0 dX2_upperStrikers_12 rfl ?_
  refine wp_aload_n 1 dX2_upperStrikers_13 rfl ?_
  refine wp_cVi (As := [.ref r1]) (st := []) (mw_X2_inUpper h0 h1 hs) gX2_upperStrikers_X2_inUpper rfl hy_X2_inUpper rfl (σ_isP h0) (lt_isP h0) rfl (by decide) (by decide) (Nat.le_of_ble_eq_true rfl) rfl dX2_upperStrikers_14 (fun v3 M2 hs => ?_)
  refine wp_istore (ls' := [(0, .ref r0), (1, .ref r1), (2, .int b), (3, .int c), (4, .int d), (5, .int v3)]) [1, 2, 3, 4, 5, 0] dX2_upperStrikers_17 rfl (by decide) ?_
  refine wp_aload_n 0 dX2_upperStrikers_19 rfl ?_
  refine wp_get (v := .ref (r0 + 1)) dX2_upperStrikers_20 (σ_isP h0) (lt_isP h0) rfl in_X2_upperStrikers_X2 0 (by decide) fl_X2_upperStrikers_12 rfl rfl ?_
  refine wp_iload_n 2 dX2_upperStrikers_23 rfl ?_
  refine wp_cVv (As := [.int b]) (st := []) (mw_X3_swingUp (isH_of h0) hs) gX2_upperStrikers_X3_swingUp rfl hy_X3_swingUp rfl (σ_isH (isH_of h0)) (lt_isH (isH_of h0)) rfl (by decide) (by decide) (Nat.le_of_ble_eq_true rfl) rfl dX2_upperStrikers_24 (fun  M4 hs => ?_)
  refine wp_iload 5 dX2_upperStrikers_27 rfl ?_
  refine wp_aload_n 0 dX2_upperStrikers_29 rfl ?_
  refine wp_aload_n 1 dX2_upperStrikers_30 rfl ?_
  refine wp_cVi (As := [.ref r1]) (st := [.int v3]) (mw_X2_inUpper h0 h1 hs) gX2_upperStrikers_X2_inUpper rfl hy_X2_inUpper rfl (σ_isP h0) (lt_isP h0) rfl (by decide) (by decide) (Nat.le_of_ble_eq_true rfl) rfl dX2_upperStrikers_31 (fun v6 M5 hs => ?_)
  refine wp_ior dX2_upperStrikers_34 ?_
  exact wp_ireturn rfl rfl dX2_upperStrikers_35 (hQ _ _ hs)
abbrev iX2_farEnd : MI := (cX2_farEnd, 5, some .int, RX2, yX2_farEnd, wsX2_farEnd)
theorem hy_X2_farEnd : yX2_farEnd.cls = RX2 ∧ yX2_farEnd.cls ≠ "java/lang/invoke/MethodHandle" ∧ yX2_farEnd.cls ≠ "java/lang/invoke/VarHandle" ∧ (parseMethodDescriptor yX2_farEnd.desc).map (fun d => d.parameters.length) = some 4 := by decide +kernel
theorem in_X2_farEnd_X2 : ∀ w ∈ u_ws RX2 TX2 1, w ∈ wsX2_farEnd := by decide +kernel
theorem in_X2_farEnd_X4 : ∀ w ∈ u_ws RX4 TX4 7, w ∈ wsX2_farEnd := by decide +kernel
theorem fl_X2_farEnd_12 : Cond.fieldLink RX2 12 (TX2 0).1 (TX2 0).2.1 (TX2 0).2.2.1 ∈ wsX2_farEnd := by decide +kernel
theorem fl_X2_farEnd_52 : Cond.fieldLink RX2 52 (TX4 2).1 (TX4 2).2.1 (TX4 2).2.2.1 ∈ wsX2_farEnd := by decide +kernel
theorem fl_X2_farEnd_56 : Cond.fieldLink RX2 56 (TX4 3).1 (TX4 3).2.1 (TX4 3).2.2.1 ∈ wsX2_farEnd := by decide +kernel
def w_X2_farEnd (r0 : Nat) (r1 : Nat) (b : Int32) (c : Int32) (d : Int32) (M : Nat → Nat → Int32) (Q : Int32 → (Nat → Nat → Int32) → Prop) : Prop := w_X3_layFlat (r0 + 1) r1 b (M r1 2) (M r1 3) M (fun M1 => ((d = 0 → w_X3_farEndX (r0 + 1) c M1 (fun v4 M3 => Q v4 M3)) ∧ (¬ d = 0 → w_X3_farEndY (r0 + 1) c M1 (fun v6 M5 => Q v6 M5))))
set_option maxHeartbeats 4000000 in
set_option maxRecDepth 100000 in
theorem mw_X2_farEnd {E : EN} {r0 : Nat} {r1 : Nat} {b : Int32} {c : Int32} {d : Int32} {M : Nat → Nat → Int32} {Q : Int32 → (Nat → Nat → Int32) → Prop} (h0 : isP r0) (h1 : isS r1) (hs : w_X2_farEnd r0 r1 b c d M Q) : MW E iX2_farEnd 3 0 0 false [.ref r0, .ref r1, .int b, .int c, .int d] σC 46 M (qI σC 46 Q) := by
  refine mw_intro (ls := [(0, .ref r0), (1, .ref r1), (2, .int b), (3, .int c), (4, .int d)]) rfl (by decide +kernel) rfl rfl (Nat.le_of_ble_eq_true rfl) ?_
  have hQ : ∀ x M, Q x M → (qI σC 46 Q) (some (.int x)) σC 46 M := fun _ _ h => ⟨_, rfl, rfl, rfl, h⟩
  generalize (qI σC 46 Q) = Qf at hQ ⊢
  unfold w_X2_farEnd at hs
  refine wp_aload_n 0 dX2_farEnd_0 rfl ?_
  refine wp_get (v := .ref (r0 + 1)) dX2_farEnd_1 (σ_isP h0) (lt_isP h0) rfl in_X2_farEnd_X2 0 (by decide) fl_X2_farEnd_12 rfl rfl ?_
  refine wp_aload_n 1 dX2_farEnd_4 rfl ?_
  refine wp_iload_n 2 dX2_farEnd_5 rfl ?_
  refine wp_aload_n 1 dX2_farEnd_6 rfl ?_
  refine wp_get (v := .int (M r1 2)) dX2_farEnd_7 (σ_isS h1) (lt_isS h1) rfl in_X2_farEnd_X4 2 (by decide) fl_X2_farEnd_52 rfl rfl ?_
  refine wp_aload_n 1 dX2_farEnd_10 rfl ?_
  refine wp_get (v := .int (M r1 3)) dX2_farEnd_11 (σ_isS h1) (lt_isS h1) rfl in_X2_farEnd_X4 3 (by decide) fl_X2_farEnd_56 rfl rfl ?_
  refine wp_cVv (As := [.ref r1, .int b, .int (M r1 2), .int (M r1 3)]) (st := []) (mw_X3_layFlat (isH_of h0) h1 hs) gX2_farEnd_X3_layFlat rfl hy_X3_layFlat rfl (σ_isH (isH_of h0)) (lt_isH (isH_of h0)) rfl (by decide) (by decide) (Nat.le_of_ble_eq_true rfl) rfl dX2_farEnd_14 (fun  M1 hs => ?_)
  refine wp_iload 4 dX2_farEnd_17 rfl ?_
  refine wp_if_eq (tgt := 33) dX2_farEnd_19 (by decide) (fun c2 => ?_) (fun c2 => ?_)
  · have hs := hs.1 c2
    refine wp_aload_n 0 dX2_farEnd_33 rfl ?_
    refine wp_get (v := .ref (r0 + 1)) dX2_farEnd_34 (σ_isP h0) (lt_isP h0) rfl in_X2_farEnd_X2 0 (by decide) fl_X2_farEnd_12 rfl rfl ?_
    refine wp_iload_n 3 dX2_farEnd_37 rfl ?_
    refine wp_cVi (As := [.int c]) (st := []) (mw_X3_farEndX (isH_of h0) hs) gX2_farEnd_X3_farEndX rfl hy_X3_farEndX rfl (σ_isH (isH_of h0)) (lt_isH (isH_of h0)) rfl (by decide) (by decide) (Nat.le_of_ble_eq_true rfl) rfl dX2_farEnd_38 (fun v4 M3 hs => ?_)
    exact wp_ireturn rfl rfl dX2_farEnd_41 (hQ _ _ hs)
  · have hs := hs.2 c2
    refine wp_aload_n 0 dX2_farEnd_22 rfl ?_
    refine wp_get (v := .ref (r0 + 1)) dX2_farEnd_23 (σ_isP h0) (lt_isP h0) rfl in_X2_farEnd_X2 0 (by decide) fl_X2_farEnd_12 rfl rfl ?_
    refine wp_iload_n 3 dX2_farEnd_26 rfl ?_
    refine wp_cVi (As := [.int c]) (st := []) (mw_X3_farEndY (isH_of h0) hs) gX2_farEnd_X3_farEndY rfl hy_X3_farEndY rfl (σ_isH (isH_of h0)) (lt_isH (isH_of h0)) rfl (by decide) (by decide) (Nat.le_of_ble_eq_true rfl) rfl dX2_farEnd_27 (fun v6 M5 hs => ?_)
    refine wp_goto (tgt := 41) dX2_farEnd_30 (by decide) ?_
    exact wp_ireturn rfl rfl dX2_farEnd_41 (hQ _ _ hs)
