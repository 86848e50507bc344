abbrev iX0_rowAt : MI := (cX0_rowAt, 2, some (.object "BendOrders$State"), RX0, yX0_rowAt, wsX0_rowAt)
theorem hy_X0_rowAt : yX0_rowAt.cls = RX0 ∧ yX0_rowAt.cls ≠ "java/lang/invoke/MethodHandle" ∧ yX0_rowAt.cls ≠ "java/lang/invoke/VarHandle" ∧ (parseMethodDescriptor yX0_rowAt.desc).map (fun d => d.parameters.length) = some 1 := by decide +kernel
theorem in_X0_rowAt_X0 : ∀ w ∈ u_ws RX0 TX0 2, w ∈ wsX0_rowAt := by decide +kernel
theorem fl_X0_rowAt_17 : Cond.fieldLink RX0 17 (TX0 1).1 (TX0 1).2.1 (TX0 1).2.2.1 ∈ wsX0_rowAt := by decide +kernel
def w_X0_rowAt (a : Int32) (M : Nat → Nat → Int32) (Q : Int32 → (Nat → Nat → Int32) → Prop) : Prop := ((a < 0 → Q (-1) M) ∧ (¬ a < 0 → (((nI 4) ≤ a → Q (-1) M) ∧ (¬ (nI 4) ≤ a → (vp_in a 4 ∧ Q (M 8 a.toNatClampNeg) M)))))
set_option maxHeartbeats 4000000 in
set_option maxRecDepth 100000 in
theorem mw_X0_rowAt {E : EN} {a : Int32} {M : Nat → Nat → Int32} {Q : Int32 → (Nat → Nat → Int32) → Prop} (hs : w_X0_rowAt a M Q) : MW E iX0_rowAt 1 0 0 false [.ref 7, .int a] σC 46 M (qA σC 46 Q) := by
  refine mw_intro (ls := [(0, .ref 7), (1, .int a)]) rfl (by decide +kernel) rfl rfl (Nat.le_of_ble_eq_true rfl) ?_
  have hQ : ∀ x M, Q x M → (qA σC 46 Q) (some (aR x)) σC 46 M := fun _ _ h => ⟨_, rfl, rfl, rfl, h⟩
  generalize (qA σC 46 Q) = Qf at hQ ⊢
  unfold w_X0_rowAt at hs
  refine wp_iload_n 1 dX0_rowAt_0 rfl ?_
  refine wp_if_lt (tgt := 22) dX0_rowAt_1 (by decide) (fun c1 => ?_) (fun c1 => ?_)
  · have hs := hs.1 c1
    refine wp_null dX0_rowAt_22 ?_
    exact wp_areturn (v := aR (-1)) (aR_or _) rfl dX0_rowAt_23 (hQ _ _ hs)
  · have hs := hs.2 c1
    refine wp_iload_n 1 dX0_rowAt_4 rfl ?_
    refine wp_aload_n 0 dX0_rowAt_5 rfl ?_
    refine wp_get (v := .ref 8) dX0_rowAt_6 rfl (by decide) rfl in_X0_rowAt_X0 1 (by decide) fl_X0_rowAt_17 rfl rfl ?_
    refine wp_alen (v := nI 4) rfl (by decide) (by decide) (by decide) dX0_rowAt_9 ?_
    refine wp_icmp_ge (tgt := 22) dX0_rowAt_10 (by decide) (fun c2 => ?_) (fun c2 => ?_)
    · have hs := hs.1 c2
      refine wp_null dX0_rowAt_22 ?_
      exact wp_areturn (v := aR (-1)) (aR_or _) rfl dX0_rowAt_23 (hQ _ _ hs)
    · have hs := hs.2 c2
      refine wp_aload_n 0 dX0_rowAt_13 rfl ?_
      refine wp_get (v := .ref 8) dX0_rowAt_14 rfl (by decide) rfl in_X0_rowAt_X0 1 (by decide) fl_X0_rowAt_17 rfl rfl ?_
      refine wp_iload_n 1 dX0_rowAt_17 rfl ?_
      have hv := hs.1
      have hs := hs.2
      refine wp_aald rfl (by decide) hv dX0_rowAt_18 ?_
      refine wp_goto (tgt := 23) dX0_rowAt_19 (by decide) ?_
      exact wp_areturn (aR_or _) rfl dX0_rowAt_23 (hQ _ _ hs)
abbrev iX0_dropOldest : MI := (cX0_dropOldest, 3, none, RX0, yX0_dropOldest, wsX0_dropOldest)
theorem hy_X0_dropOldest : yX0_dropOldest.cls = RX0 ∧ yX0_dropOldest.cls ≠ "java/lang/invoke/MethodHandle" ∧ yX0_dropOldest.cls ≠ "java/lang/invoke/VarHandle" ∧ (parseMethodDescriptor yX0_dropOldest.desc).map (fun d => d.parameters.length) = some 0 := by decide +kernel
theorem in_X0_dropOldest_X0 : ∀ w ∈ u_ws RX0 TX0 2, w ∈ wsX0_dropOldest := by decide +kernel
theorem fl_X0_dropOldest_9 : Cond.fieldLink RX0 9 (TX0 0).1 (TX0 0).2.1 (TX0 0).2.2.1 ∈ wsX0_dropOldest := by decide +kernel
theorem fl_X0_dropOldest_17 : Cond.fieldLink RX0 17 (TX0 1).1 (TX0 1).2.1 (TX0 1).2.2.1 ∈ wsX0_dropOldest := by decide +kernel
def w_X0_dropOldest_8 : Nat → Int32 → (Nat → Nat → Int32) → (Int32 → (Nat → Nat → Int32) → Prop) → Prop
  | 0, _, _, _ => False
  | n + 1, x2, M, K => (((nI 4) ≤ x2 → K x2 M) ∧ (¬ (nI 4) ≤ x2 → (vp_in x2 4 ∧ ((¬ (M 8 x2.toNatClampNeg) < 0 ∧ isS (M 8 x2.toNatClampNeg).toNatClampNeg) ∧ (vp_in (x2 - (nI 1)) 4 ∧ ∀ M6 : Nat → Nat → Int32, M6 = um M 8 (upd (M 8) (x2 - (nI 1)).toNatClampNeg (nI ((M 8 x2.toNatClampNeg).toNatClampNeg))) → ∀ y7 : Int32, y7 = x2 + (nI 1) → w_X0_dropOldest_8 n y7 M6 K)))))
set_option maxHeartbeats 4000000 in
set_option maxRecDepth 100000 in
theorem lp_X0_dropOldest_8 {E : EN} {q1 : Nat} {Qf : PST} {K : Int32 → (Nat → Nat → Int32) → Prop} (hK : ∀ (z2 : Int32) (M : Nat → Nat → Int32), K z2 M → WP E iX0_dropOldest 2 0 0 false 37 [(0, .ref 7), (1, .ref q1)] [] σC 46 M Qf) : ∀ (nn : Nat) (x2 : Int32) (M : Nat → Nat → Int32), w_X0_dropOldest_8 nn x2 M K → WP E iX0_dropOldest 2 0 0 false 8 [(0, .ref 7), (1, .ref q1), (2, .int x2)] [] σC 46 M Qf := by
  intro nn
  induction nn with
  | zero => intro x2 M hs; exact hs.elim
  | succ n ih =>
    intro x2 M hs
    unfold w_X0_dropOldest_8 at hs
    refine wp_iload_n 2 dX0_dropOldest_8 rfl ?_
    refine wp_aload_n 0 dX0_dropOldest_9 rfl ?_
    refine wp_get (v := .ref 8) dX0_dropOldest_10 rfl (by decide) rfl in_X0_dropOldest_X0 1 (by decide) fl_X0_dropOldest_17 rfl rfl ?_
    refine wp_alen (v := nI 4) rfl (by decide) (by decide) (by decide) dX0_dropOldest_13 ?_
    refine wp_icmp_ge (tgt := 37) dX0_dropOldest_14 (by decide) (fun c4 => ?_) (fun c4 => ?_)
    · have hs := hs.1 c4
      refine wp_sub (ls' := [(0, .ref 7), (1, .ref q1)]) [0, 1] rfl ?_
      exact hK _ _ hs
    · have hs := hs.2 c4
      refine wp_aload_n 0 dX0_dropOldest_17 rfl ?_
      refine wp_get (v := .ref 8) dX0_dropOldest_18 rfl (by decide) rfl in_X0_dropOldest_X0 1 (by decide) fl_X0_dropOldest_17 rfl rfl ?_
      refine wp_iload_n 2 dX0_dropOldest_21 rfl ?_
      refine wp_iconst (v := (nI 1)) dX0_dropOldest_22 (by decide) ?_
      refine wp_isub dX0_dropOldest_23 ?_
      refine wp_aload_n 0 dX0_dropOldest_24 rfl ?_
      refine wp_get (v := .ref 8) dX0_dropOldest_25 rfl (by decide) rfl in_X0_dropOldest_X0 1 (by decide) fl_X0_dropOldest_17 rfl rfl ?_
      refine wp_iload_n 2 dX0_dropOldest_28 rfl ?_
      have hv := hs.1
      have hs := hs.2
      refine wp_aald rfl (by decide) hv dX0_dropOldest_29 ?_
      have hnn := hs.1
      have hs := hs.2
      rw [aR_pos hnn.1]
      have hv := hs.1
      have hs := hs.2
      refine wp_aast rfl (by decide) (σ_isS hnn.2) (lt_isS hnn.2) hv dX0_dropOldest_30 (fun M6 eM6 => ?_)
      have hs := hs M6 eM6
      obtain ⟨y7, ey7⟩ : ∃ y : Int32, y = x2 + (nI 1) := ⟨_, rfl⟩
      have hs := hs y7 ey7
      refine wp_iinc (v := y7) (ls' := [(0, .ref 7), (1, .ref q1), (2, .int y7)]) 2 [1, 2, 0] dX0_dropOldest_31 rfl (by rw [ey7]; rfl) rfl (by decide) ?_
      refine wp_goto (tgt := 8) dX0_dropOldest_34 (by decide) ?_
      refine wp_sub (ls' := [(0, .ref 7), (1, .ref q1), (2, .int y7)]) [0, 1, 2] rfl ?_
      exact ih _ _ hs
def w_X0_dropOldest (M : Nat → Nat → Int32) (Q : (Nat → Nat → Int32) → Prop) : Prop := w_X0_rowAt (nI 0) M (fun v2 M1 => ((¬ v2 < 0 ∧ isS v2.toNatClampNeg) ∧ w_X0_dropOldest_8 FU (nI 1) M1 (fun y8 M9 => ∀ M10 : Nat → Nat → Int32, M10 = um M9 7 (upd (M9 7) 0 ((nI 4) - (nI 1))) → (vp_in (M10 7 0) 4 ∧ ∀ M11 : Nat → Nat → Int32, M11 = um M10 8 (upd (M10 8) (M10 7 0).toNatClampNeg (nI (v2.toNatClampNeg))) → Q M11))))
set_option maxHeartbeats 4000000 in
set_option maxRecDepth 100000 in
theorem mw_X0_dropOldest {E : EN} {M : Nat → Nat → Int32} {Q : (Nat → Nat → Int32) → Prop} (hs : w_X0_dropOldest M Q) : MW E iX0_dropOldest 2 0 0 false [.ref 7] σC 46 M (qV σC 46 Q) := by
  refine mw_intro (ls := [(0, .ref 7)]) rfl (by decide +kernel) rfl rfl (Nat.le_of_ble_eq_true rfl) ?_
  have hQ : ∀ M, Q M → (qV σC 46 Q) none σC 46 M := fun _ h => ⟨rfl, rfl, rfl, h⟩
  generalize (qV σC 46 Q) = Qf at hQ ⊢
  unfold w_X0_dropOldest at hs
  refine wp_aload_n 0 dX0_dropOldest_0 rfl ?_
  refine wp_iconst (v := (nI 0)) dX0_dropOldest_1 (by decide) ?_
  refine wp_cVa (As := [.int (nI 0)]) (st := []) (mw_X0_rowAt  hs) gX0_dropOldest_X0_rowAt rfl hy_X0_rowAt rfl rfl (by decide) rfl (by decide) (by decide) (Nat.le_of_ble_eq_true rfl) rfl dX0_dropOldest_2 (fun v2 M1 hs => ?_)
  have hnn := hs.1
  have hs := hs.2
  rw [aR_pos hnn.1]
  have hn3 := hnn.2
  refine wp_astore_n (ls' := [(0, .ref 7), (1, .ref (v2.toNatClampNeg))]) [1, 0] dX0_dropOldest_5 rfl (by decide) ?_
  refine wp_iconst (v := (nI 1)) dX0_dropOldest_6 (by decide) ?_
  refine wp_istore_n (ls' := [(0, .ref 7), (1, .ref (v2.toNatClampNeg)), (2, .int (nI 1))]) [1, 2, 0] dX0_dropOldest_7 rfl (by decide) ?_
  refine wp_sub (ls' := [(0, .ref 7), (1, .ref (v2.toNatClampNeg)), (2, .int (nI 1))]) [0, 1, 2] rfl ?_
  refine lp_X0_dropOldest_8 (K := fun y8 M9 => ∀ M10 : Nat → Nat → Int32, M10 = um M9 7 (upd (M9 7) 0 ((nI 4) - (nI 1))) → (vp_in (M10 7 0) 4 ∧ ∀ M11 : Nat → Nat → Int32, M11 = um M10 8 (upd (M10 8) (M10 7 0).toNatClampNeg (nI (v2.toNatClampNeg))) → Q M11)) (fun y8 M9 hs => ?_) FU _ _ hs
  refine wp_aload_n 0 dX0_dropOldest_37 rfl ?_
  refine wp_aload_n 0 dX0_dropOldest_38 rfl ?_
  refine wp_get (v := .ref 8) dX0_dropOldest_39 rfl (by decide) rfl in_X0_dropOldest_X0 1 (by decide) fl_X0_dropOldest_17 rfl rfl ?_
  refine wp_alen (v := nI 4) rfl (by decide) (by decide) (by decide) dX0_dropOldest_42 ?_
  refine wp_iconst (v := (nI 1)) dX0_dropOldest_43 (by decide) ?_
  refine wp_isub dX0_dropOldest_44 ?_
  refine wp_put (ty := .int) tyX0 tyX0_ok nmX0 rfl (by decide) rfl in_X0_dropOldest_X0 0 (by decide) fl_X0_dropOldest_9 rfl rfl (by decide +kernel) rfl rfl dX0_dropOldest_45 (fun M10 eM10 => ?_)
  have hs := hs M10 eM10
  refine wp_aload_n 0 dX0_dropOldest_48 rfl ?_
  refine wp_get (v := .ref 8) dX0_dropOldest_49 rfl (by decide) rfl in_X0_dropOldest_X0 1 (by decide) fl_X0_dropOldest_17 rfl rfl ?_
  refine wp_aload_n 0 dX0_dropOldest_52 rfl ?_
  refine wp_get (v := .int (M10 7 0)) dX0_dropOldest_53 rfl (by decide) rfl in_X0_dropOldest_X0 0 (by decide) fl_X0_dropOldest_9 rfl rfl ?_
  refine wp_aload_n 1 dX0_dropOldest_56 rfl ?_
  have hv := hs.1
  have hs := hs.2
  refine wp_aast rfl (by decide) (σ_isS hn3) (lt_isS hn3) hv dX0_dropOldest_57 (fun M11 eM11 => ?_)
  have hs := hs M11 eM11
  exact wp_return rfl dX0_dropOldest_58 (hQ _ hs)
abbrev iX0_record : MI := (cX0_record, 3, none, RX0, yX0_record, wsX0_record)
theorem hy_X0_record : yX0_record.cls = RX0 ∧ yX0_record.cls ≠ "java/lang/invoke/MethodHandle" ∧ yX0_record.cls ≠ "java/lang/invoke/VarHandle" ∧ (parseMethodDescriptor yX0_record.desc).map (fun d => d.parameters.length) = some 1 := by decide +kernel
theorem in_X0_record_X0 : ∀ w ∈ u_ws RX0 TX0 2, w ∈ wsX0_record := by decide +kernel
theorem fl_X0_record_9 : Cond.fieldLink RX0 9 (TX0 0).1 (TX0 0).2.1 (TX0 0).2.2.1 ∈ wsX0_record := by decide +kernel
theorem fl_X0_record_17 : Cond.fieldLink RX0 17 (TX0 1).1 (TX0 1).2.1 (TX0 1).2.2.1 ∈ wsX0_record := by decide +kernel
def w_X0_record (r1 : Nat) (M : Nat → Nat → Int32) (Q : (Nat → Nat → Int32) → Prop) : Prop := (((M 7 0) < (nI 4) → w_X0_rowAt (M 7 0) M (fun v3 M2 => ((¬ v3 < 0 ∧ isS v3.toNatClampNeg) ∧ w_X4_copyFrom (v3.toNatClampNeg) r1 M2 (fun M5 => ∀ M6 : Nat → Nat → Int32, M6 = um M5 7 (upd (M5 7) 0 ((M5 7 0) + (nI 1))) → Q M6)))) ∧ (¬ (M 7 0) < (nI 4) → w_X0_dropOldest M (fun M7 => w_X0_rowAt (M7 7 0) M7 (fun v9 M8 => ((¬ v9 < 0 ∧ isS v9.toNatClampNeg) ∧ w_X4_copyFrom (v9.toNatClampNeg) r1 M8 (fun M11 => ∀ M12 : Nat → Nat → Int32, M12 = um M11 7 (upd (M11 7) 0 ((M11 7 0) + (nI 1))) → Q M12))))))
set_option maxHeartbeats 4000000 in
set_option maxRecDepth 100000 in
theorem mw_X0_record {E : EN} {r1 : Nat} {M : Nat → Nat → Int32} {Q : (Nat → Nat → Int32) → Prop} (h1 : isS r1) (hs : w_X0_record r1 M Q) : MW E iX0_record 3 0 0 false [.ref 7, .ref r1] σC 46 M (qV σC 46 Q) := by
  refine mw_intro (ls := [(0, .ref 7), (1, .ref r1)]) rfl (by decide +kernel) rfl rfl (Nat.le_of_ble_eq_true rfl) ?_
  have hQ : ∀ M, Q M → (qV σC 46 Q) none σC 46 M := fun _ h => ⟨rfl, rfl, rfl, h⟩
  generalize (qV σC 46 Q) = Qf at hQ ⊢
  unfold w_X0_record at hs
  refine wp_aload_n 0 dX0_record_0 rfl ?_
  refine wp_get (v := .int (M 7 0)) dX0_record_1 rfl (by decide) rfl in_X0_record_X0 0 (by decide) fl_X0_record_9 rfl rfl ?_
  refine wp_aload_n 0 dX0_record_4 rfl ?_
  refine wp_get (v := .ref 8) dX0_record_5 rfl (by decide) rfl in_X0_record_X0 1 (by decide) fl_X0_record_17 rfl rfl ?_
  refine wp_alen (v := nI 4) rfl (by decide) (by decide) (by decide) dX0_record_8 ?_
  refine wp_icmp_lt (tgt := 16) dX0_record_9 (by decide) (fun c1 => ?_) (fun c1 => ?_)
  · have hs := hs.1 c1
    refine wp_aload_n 0 dX0_record_16 rfl ?_
    refine wp_aload_n 0 dX0_record_17 rfl ?_
    refine wp_get (v := .int (M 7 0)) dX0_record_18 rfl (by decide) rfl in_X0_record_X0 0 (by decide) fl_X0_record_9 rfl rfl ?_
    refine wp_cVa (As := [.int (M 7 0)]) (st := []) (mw_X0_rowAt  hs) gX0_record_X0_rowAt rfl hy_X0_rowAt rfl rfl (by decide) rfl (by decide) (by decide) (Nat.le_of_ble_eq_true rfl) rfl dX0_record_21 (fun v3 M2 hs => ?_)
    have hnn := hs.1
    have hs := hs.2
    rw [aR_pos hnn.1]
    have hn4 := hnn.2
    refine wp_astore_n (ls' := [(0, .ref 7), (1, .ref r1), (2, .ref (v3.toNatClampNeg))]) [1, 2, 0] dX0_record_24 rfl (by decide) ?_
    refine wp_aload_n 2 dX0_record_25 rfl ?_
    refine wp_ifnull dX0_record_26 ?_
    refine wp_aload_n 2 dX0_record_29 rfl ?_
    refine wp_aload_n 1 dX0_record_30 rfl ?_
    refine wp_cVv (As := [.ref r1]) (st := []) (mw_X4_copyFrom hn4 h1 hs) gX0_record_X4_copyFrom rfl hy_X4_copyFrom rfl (σ_isS hn4) (lt_isS hn4) rfl (by decide) (by decide) (Nat.le_of_ble_eq_true rfl) rfl dX0_record_31 (fun  M5 hs => ?_)
    refine wp_aload_n 0 dX0_record_34 rfl ?_
    refine wp_dup rfl dX0_record_35 ?_
    refine wp_get (v := .int (M5 7 0)) dX0_record_36 rfl (by decide) rfl in_X0_record_X0 0 (by decide) fl_X0_record_9 rfl rfl ?_
    refine wp_iconst (v := (nI 1)) dX0_record_39 (by decide) ?_
    refine wp_iadd dX0_record_40 ?_
    refine wp_put (ty := .int) tyX0 tyX0_ok nmX0 rfl (by decide) rfl in_X0_record_X0 0 (by decide) fl_X0_record_9 rfl rfl (by decide +kernel) rfl rfl dX0_record_41 (fun M6 eM6 => ?_)
    have hs := hs M6 eM6
    exact wp_return rfl dX0_record_44 (hQ _ hs)
  · have hs := hs.2 c1
    refine wp_aload_n 0 dX0_record_12 rfl ?_
    refine wp_cVv (As := []) (st := []) (mw_X0_dropOldest  hs) gX0_record_X0_dropOldest rfl hy_X0_dropOldest rfl rfl (by decide) rfl (by decide) (by decide) (Nat.le_of_ble_eq_true rfl) rfl dX0_record_13 (fun  M7 hs => ?_)
    refine wp_aload_n 0 dX0_record_16 rfl ?_
    refine wp_aload_n 0 dX0_record_17 rfl ?_
    refine wp_get (v := .int (M7 7 0)) dX0_record_18 rfl (by decide) rfl in_X0_record_X0 0 (by decide) fl_X0_record_9 rfl rfl ?_
    refine wp_cVa (As := [.int (M7 7 0)]) (st := []) (mw_X0_rowAt  hs) gX0_record_X0_rowAt rfl hy_X0_rowAt rfl rfl (by decide) rfl (by decide) (by decide) (Nat.le_of_ble_eq_true rfl) rfl dX0_record_21 (fun v9 M8 hs => ?_)
    have hnn := hs.1
    have hs := hs.2
    rw [aR_pos hnn.1]
    have hn10 := hnn.2
    refine wp_astore_n (ls' := [(0, .ref 7), (1, .ref r1), (2, .ref (v9.toNatClampNeg))]) [1, 2, 0] dX0_record_24 rfl (by decide) ?_
    refine wp_aload_n 2 dX0_record_25 rfl ?_
    refine wp_ifnull dX0_record_26 ?_
    refine wp_aload_n 2 dX0_record_29 rfl ?_
    refine wp_aload_n 1 dX0_record_30 rfl ?_
    refine wp_cVv (As := [.ref r1]) (st := []) (mw_X4_copyFrom hn10 h1 hs) gX0_record_X4_copyFrom rfl hy_X4_copyFrom rfl (σ_isS hn10) (lt_isS hn10) rfl (by decide) (by decide) (Nat.le_of_ble_eq_true rfl) rfl dX0_record_31 (fun  M11 hs => ?_)
    refine wp_aload_n 0 dX0_record_34 rfl ?_
    refine wp_dup rfl dX0_record_35 ?_
    refine wp_get (v := .int (M11 7 0)) dX0_record_36 rfl (by decide) rfl in_X0_record_X0 0 (by decide) fl_X0_record_9 rfl rfl ?_
    refine wp_iconst (v := (nI 1)) dX0_record_39 (by decide) ?_
    refine wp_iadd dX0_record_40 ?_
    refine wp_put (ty := .int) tyX0 tyX0_ok nmX0 rfl (by decide) rfl in_X0_record_X0 0 (by decide) fl_X0_record_9 rfl rfl (by decide +kernel) rfl rfl dX0_record_41 (fun M12 eM12 => ?_)
    have hs := hs M12 eM12
    exact wp_return rfl dX0_record_44 (hQ _ hs)
abbrev iX3_flangesIn : MI := (cX3_flangesIn, 10, some .int, RX3, yX3_flangesIn, wsX3_flangesIn)
theorem hy_X3_flangesIn : yX3_flangesIn.cls = RX3 ∧ yX3_flangesIn.cls ≠ "java/lang/invoke/MethodHandle" ∧ yX3_flangesIn.cls ≠ "java/lang/invoke/VarHandle" ∧ (parseMethodDescriptor yX3_flangesIn.desc).map (fun d => d.parameters.length) = some 4 := by decide +kernel
theorem in_X3_flangesIn_X3 : ∀ w ∈ u_ws RX3 TX3 11, w ∈ wsX3_flangesIn := by decide +kernel
theorem fl_X3_flangesIn_9 : Cond.fieldLink RX3 9 (TX3 5).1 (TX3 5).2.1 (TX3 5).2.2.1 ∈ wsX3_flangesIn := by decide +kernel
theorem fl_X3_flangesIn_15 : Cond.fieldLink RX3 15 (TX3 6).1 (TX3 6).2.1 (TX3 6).2.2.1 ∈ wsX3_flangesIn := by decide +kernel
theorem fl_X3_flangesIn_18 : Cond.fieldLink RX3 18 (TX3 7).1 (TX3 7).2.1 (TX3 7).2.2.1 ∈ wsX3_flangesIn := by decide +kernel
theorem fl_X3_flangesIn_21 : Cond.fieldLink RX3 21 (TX3 8).1 (TX3 8).2.1 (TX3 8).2.2.1 ∈ wsX3_flangesIn := by decide +kernel
theorem fl_X3_flangesIn_42 : Cond.fieldLink RX3 42 (TX3 0).1 (TX3 0).2.1 (TX3 0).2.2.1 ∈ wsX3_flangesIn := by decide +kernel
def w_X3_flangesIn_6 (r0 : Nat) : Nat → Int32 → Int32 → Int32 → Int32 → Int32 → Int32 → (Nat → Nat → Int32) → (Int32 → Int32 → (Nat → Nat → Int32) → Prop) → Prop
  | 0, _, _, _, _, _, _, _, _ => False
  | n + 1, x1, x2, x3, x4, x5, x6, M, K => (((M r0 0) ≤ x6 → K x5 x6 M) ∧ (¬ (M r0 0) ≤ x6 → (((nI 8) ≤ x6 → K x5 x6 M) ∧ (¬ (nI 8) ≤ x6 → (vp_in x6 8 ∧ (((M (r0 + 2) x6.toNatClampNeg) < x1 → (vp_in x6 8 ∧ (((M (r0 + 3) x6.toNatClampNeg) ≤ x4 → (vp_in x6 8 ∧ ((x3 ≤ (M (r0 + 4) x6.toNatClampNeg) → ((¬ (nI 1) = 0 → ∀ y7 : Int32, y7 = x6 + (nI 1) → w_X3_flangesIn_6 r0 n x1 x2 x3 x4 x5 y7 M K) ∧ ((nI 1) = 0 → ((¬ (nI 0) = 0 → ∀ y9 : Int32, y9 = x6 + (nI 1) → w_X3_flangesIn_6 r0 n x1 x2 x3 x4 x5 y9 M K) ∧ ((nI 0) = 0 → ((¬ (nI 0) = 0 → ∀ y11 : Int32, y11 = x6 + (nI 1) → w_X3_flangesIn_6 r0 n x1 x2 x3 x4 x5 y11 M K) ∧ ((nI 0) = 0 → ((x4 < x3 → ∀ y13 : Int32, y13 = x6 + (nI 1) → w_X3_flangesIn_6 r0 n x1 x2 x3 x4 x5 y13 M K) ∧ (¬ x4 < x3 → ∀ y14 : Int32, y14 = (x5 ||| ((nI 1) <<< (x6 &&& 31))) → ∀ y15 : Int32, y15 = x6 + (nI 1) → w_X3_flangesIn_6 r0 n x1 x2 x3 x4 y14 y15 M K))))))))) ∧ (¬ x3 ≤ (M (r0 + 4) x6.toNatClampNeg) → ((¬ (nI 1) = 0 → ∀ y17 : Int32, y17 = x6 + (nI 1) → w_X3_flangesIn_6 r0 n x1 x2 x3 x4 x5 y17 M K) ∧ ((nI 1) = 0 → ((¬ (nI 0) = 0 → ∀ y19 : Int32, y19 = x6 + (nI 1) → w_X3_flangesIn_6 r0 n x1 x2 x3 x4 x5 y19 M K) ∧ ((nI 0) = 0 → ((¬ (nI 1) = 0 → ∀ y21 : Int32, y21 = x6 + (nI 1) → w_X3_flangesIn_6 r0 n x1 x2 x3 x4 x5 y21 M K) ∧ ((nI 1) = 0 → ((x4 < x3 → ∀ y23 : Int32, y23 = x6 + (nI 1) → w_X3_flangesIn_6 r0 n x1 x2 x3 x4 x5 y23 M K) ∧ (¬ x4 < x3 → ∀ y24 : Int32, y24 = (x5 ||| ((nI 1) <<< (x6 &&& 31))) → ∀ y25 : Int32, y25 = x6 + (nI 1) → w_X3_flangesIn_6 r0 n x1 x2 x3 x4 y24 y25 M K)))))))))))) ∧ (¬ (M (r0 + 3) x6.toNatClampNeg) ≤ x4 → (vp_in x6 8 ∧ ((x3 ≤ (M (r0 + 4) x6.toNatClampNeg) → ((¬ (nI 1) = 0 → ∀ y28 : Int32, y28 = x6 + (nI 1) → w_X3_flangesIn_6 r0 n x1 x2 x3 x4 x5 y28 M K) ∧ ((nI 1) = 0 → ((¬ (nI 1) = 0 → ∀ y30 : Int32, y30 = x6 + (nI 1) → w_X3_flangesIn_6 r0 n x1 x2 x3 x4 x5 y30 M K) ∧ ((nI 1) = 0 → ((¬ (nI 0) = 0 → ∀ y32 : Int32, y32 = x6 + (nI 1) → w_X3_flangesIn_6 r0 n x1 x2 x3 x4 x5 y32 M K) ∧ ((nI 0) = 0 → ((x4 < x3 → ∀ y34 : Int32, y34 = x6 + (nI 1) → w_X3_flangesIn_6 r0 n x1 x2 x3 x4 x5 y34 M K) ∧ (¬ x4 < x3 → ∀ y35 : Int32, y35 = (x5 ||| ((nI 1) <<< (x6 &&& 31))) → ∀ y36 : Int32, y36 = x6 + (nI 1) → w_X3_flangesIn_6 r0 n x1 x2 x3 x4 y35 y36 M K))))))))) ∧ (¬ x3 ≤ (M (r0 + 4) x6.toNatClampNeg) → ((¬ (nI 1) = 0 → ∀ y38 : Int32, y38 = x6 + (nI 1) → w_X3_flangesIn_6 r0 n x1 x2 x3 x4 x5 y38 M K) ∧ ((nI 1) = 0 → ((¬ (nI 1) = 0 → ∀ y40 : Int32, y40 = x6 + (nI 1) → w_X3_flangesIn_6 r0 n x1 x2 x3 x4 x5 y40 M K) ∧ ((nI 1) = 0 → ((¬ (nI 1) = 0 → ∀ y42 : Int32, y42 = x6 + (nI 1) → w_X3_flangesIn_6 r0 n x1 x2 x3 x4 x5 y42 M K) ∧ ((nI 1) = 0 → ((x4 < x3 → ∀ y44 : Int32, y44 = x6 + (nI 1) → w_X3_flangesIn_6 r0 n x1 x2 x3 x4 x5 y44 M K) ∧ (¬ x4 < x3 → ∀ y45 : Int32, y45 = (x5 ||| ((nI 1) <<< (x6 &&& 31))) → ∀ y46 : Int32, y46 = x6 + (nI 1) → w_X3_flangesIn_6 r0 n x1 x2 x3 x4 y45 y46 M K))))))))))))))) ∧ (¬ (M (r0 + 2) x6.toNatClampNeg) < x1 → (vp_in x6 8 ∧ (((M (r0 + 1) x6.toNatClampNeg) ≤ x2 → (vp_in x6 8 ∧ (((M (r0 + 3) x6.toNatClampNeg) ≤ x4 → (vp_in x6 8 ∧ ((x3 ≤ (M (r0 + 4) x6.toNatClampNeg) → ((¬ (nI 0) = 0 → ∀ y51 : Int32, y51 = x6 + (nI 1) → w_X3_flangesIn_6 r0 n x1 x2 x3 x4 x5 y51 M K) ∧ ((nI 0) = 0 → ((¬ (nI 0) = 0 → ∀ y53 : Int32, y53 = x6 + (nI 1) → w_X3_flangesIn_6 r0 n x1 x2 x3 x4 x5 y53 M K) ∧ ((nI 0) = 0 → ((¬ (nI 0) = 0 → ∀ y55 : Int32, y55 = x6 + (nI 1) → w_X3_flangesIn_6 r0 n x1 x2 x3 x4 x5 y55 M K) ∧ ((nI 0) = 0 → ((x4 < x3 → ∀ y57 : Int32, y57 = x6 + (nI 1) → w_X3_flangesIn_6 r0 n x1 x2 x3 x4 x5 y57 M K) ∧ (¬ x4 < x3 → ∀ y58 : Int32, y58 = (x5 ||| ((nI 1) <<< (x6 &&& 31))) → ∀ y59 : Int32, y59 = x6 + (nI 1) → w_X3_flangesIn_6 r0 n x1 x2 x3 x4 y58 y59 M K))))))))) ∧ (¬ x3 ≤ (M (r0 + 4) x6.toNatClampNeg) → ((¬ (nI 0) = 0 → ∀ y61 : Int32, y61 = x6 + (nI 1) → w_X3_flangesIn_6 r0 n x1 x2 x3 x4 x5 y61 M K) ∧ ((nI 0) = 0 → ((¬ (nI 0) = 0 → ∀ y63 : Int32, y63 = x6 + (nI 1) → w_X3_flangesIn_6 r0 n x1 x2 x3 x4 x5 y63 M K) ∧ ((nI 0) = 0 → ((¬ (nI 1) = 0 → ∀ y65 : Int32, y65 = x6 + (nI 1) → w_X3_flangesIn_6 r0 n x1 x2 x3 x4 x5 y65 M K) ∧ ((nI 1) = 0 → ((x4 < x3 → ∀ y67 : Int32, y67 = x6 + (nI 1) → w_X3_flangesIn_6 r0 n x1 x2 x3 x4 x5 y67 M K) ∧ (¬ x4 < x3 → ∀ y68 : Int32, y68 = (x5 ||| ((nI 1) <<< (x6 &&& 31))) → ∀ y69 : Int32, y69 = x6 + (nI 1) → w_X3_flangesIn_6 r0 n x1 x2 x3 x4 y68 y69 M K)))))))))))) ∧ (¬ (M (r0 + 3) x6.toNatClampNeg) ≤ x4 → (vp_in x6 8 ∧ ((x3 ≤ (M (r0 + 4) x6.toNatClampNeg) → ((¬ (nI 0) = 0 → ∀ y72 : Int32, y72 = x6 + (nI 1) → w_X3_flangesIn_6 r0 n x1 x2 x3 x4 x5 y72 M K) ∧ ((nI 0) = 0 → ((¬ (nI 1) = 0 → ∀ y74 : Int32, y74 = x6 + (nI 1) → w_X3_flangesIn_6 r0 n x1 x2 x3 x4 x5 y74 M K) ∧ ((nI 1) = 0 → ((¬ (nI 0) = 0 → ∀ y76 : Int32, y76 = x6 + (nI 1) → w_X3_flangesIn_6 r0 n x1 x2 x3 x4 x5 y76 M K) ∧ ((nI 0) = 0 → ((x4 < x3 → ∀ y78 : Int32, y78 = x6 + (nI 1) → w_X3_flangesIn_6 r0 n x1 x2 x3 x4 x5 y78 M K) ∧ (¬ x4 < x3 → ∀ y79 : Int32, y79 = (x5 ||| ((nI 1) <<< (x6 &&& 31))) → ∀ y80 : Int32, y80 = x6 + (nI 1) → w_X3_flangesIn_6 r0 n x1 x2 x3 x4 y79 y80 M K))))))))) ∧ (¬ x3 ≤ (M (r0 + 4) x6.toNatClampNeg) → ((¬ (nI 0) = 0 → ∀ y82 : Int32, y82 = x6 + (nI 1) → w_X3_flangesIn_6 r0 n x1 x2 x3 x4 x5 y82 M K) ∧ ((nI 0) = 0 → ((¬ (nI 1) = 0 → ∀ y84 : Int32, y84 = x6 + (nI 1) → w_X3_flangesIn_6 r0 n x1 x2 x3 x4 x5 y84 M K) ∧ ((nI 1) = 0 → ((¬ (nI 1) = 0 → ∀ y86 : Int32, y86 = x6 + (nI 1) → w_X3_flangesIn_6 r0 n x1 x2 x3 x4 x5 y86 M K) ∧ ((nI 1) = 0 → ((x4 < x3 → ∀ y88 : Int32, y88 = x6 + (nI 1) → w_X3_flangesIn_6 r0 n x1 x2 x3 x4 x5 y88 M K) ∧ (¬ x4 < x3 → ∀ y89 : Int32, y89 = (x5 ||| ((nI 1) <<< (x6 &&& 31))) → ∀ y90 : Int32, y90 = x6 + (nI 1) → w_X3_flangesIn_6 r0 n x1 x2 x3 x4 y89 y90 M K))))))))))))))) ∧ (¬ (M (r0 + 1) x6.toNatClampNeg) ≤ x2 → (vp_in x6 8 ∧ (((M (r0 + 3) x6.toNatClampNeg) ≤ x4 → (vp_in x6 8 ∧ ((x3 ≤ (M (r0 + 4) x6.toNatClampNeg) → ((¬ (nI 1) = 0 → ∀ y94 : Int32, y94 = x6 + (nI 1) → w_X3_flangesIn_6 r0 n x1 x2 x3 x4 x5 y94 M K) ∧ ((nI 1) = 0 → ((¬ (nI 0) = 0 → ∀ y96 : Int32, y96 = x6 + (nI 1) → w_X3_flangesIn_6 r0 n x1 x2 x3 x4 x5 y96 M K) ∧ ((nI 0) = 0 → ((¬ (nI 0) = 0 → ∀ y98 : Int32, y98 = x6 + (nI 1) → w_X3_flangesIn_6 r0 n x1 x2 x3 x4 x5 y98 M K) ∧ ((nI 0) = 0 → ((x4 < x3 → ∀ y100 : Int32, y100 = x6 + (nI 1) → w_X3_flangesIn_6 r0 n x1 x2 x3 x4 x5 y100 M K) ∧ (¬ x4 < x3 → ∀ y101 : Int32, y101 = (x5 ||| ((nI 1) <<< (x6 &&& 31))) → ∀ y102 : Int32, y102 = x6 + (nI 1) → w_X3_flangesIn_6 r0 n x1 x2 x3 x4 y101 y102 M K))))))))) ∧ (¬ x3 ≤ (M (r0 + 4) x6.toNatClampNeg) → ((¬ (nI 1) = 0 → ∀ y104 : Int32, y104 = x6 + (nI 1) → w_X3_flangesIn_6 r0 n x1 x2 x3 x4 x5 y104 M K) ∧ ((nI 1) = 0 → ((¬ (nI 0) = 0 → ∀ y106 : Int32, y106 = x6 + (nI 1) → w_X3_flangesIn_6 r0 n x1 x2 x3 x4 x5 y106 M K) ∧ ((nI 0) = 0 → ((¬ (nI 1) = 0 → ∀ y108 : Int32, y108 = x6 + (nI 1) → w_X3_flangesIn_6 r0 n x1 x2 x3 x4 x5 y108 M K) ∧ ((nI 1) = 0 → ((x4 < x3 → ∀ y110 : Int32, y110 = x6 + (nI 1) → w_X3_flangesIn_6 r0 n x1 x2 x3 x4 x5 y110 M K) ∧ (¬ x4 < x3 → ∀ y111 : Int32, y111 = (x5 ||| ((nI 1) <<< (x6 &&& 31))) → ∀ y112 : Int32, y112 = x6 + (nI 1) → w_X3_flangesIn_6 r0 n x1 x2 x3 x4 y111 y112 M K)))))))))))) ∧ (¬ (M (r0 + 3) x6.toNatClampNeg) ≤ x4 → (vp_in x6 8 ∧ ((x3 ≤ (M (r0 + 4) x6.toNatClampNeg) → ((¬ (nI 1) = 0 → ∀ y115 : Int32, y115 = x6 + (nI 1) → w_X3_flangesIn_6 r0 n x1 x2 x3 x4 x5 y115 M K) ∧ ((nI 1) = 0 → ((¬ (nI 1) = 0 → ∀ y117 : Int32, y117 = x6 + (nI 1) → w_X3_flangesIn_6 r0 n x1 x2 x3 x4 x5 y117 M K) ∧ ((nI 1) = 0 → ((¬ (nI 0) = 0 → ∀ y119 : Int32, y119 = x6 + (nI 1) → w_X3_flangesIn_6 r0 n x1 x2 x3 x4 x5 y119 M K) ∧ ((nI 0) = 0 → ((x4 < x3 → ∀ y121 : Int32, y121 = x6 + (nI 1) → w_X3_flangesIn_6 r0 n x1 x2 x3 x4 x5 y121 M K) ∧ (¬ x4 < x3 → ∀ y122 : Int32, y122 = (x5 ||| ((nI 1) <<< (x6 &&& 31))) → ∀ y123 : Int32, y123 = x6 + (nI 1) → w_X3_flangesIn_6 r0 n x1 x2 x3 x4 y122 y123 M K))))))))) ∧ (¬ x3 ≤ (M (r0 + 4) x6.toNatClampNeg) → ((¬ (nI 1) = 0 → ∀ y125 : Int32, y125 = x6 + (nI 1) → w_X3_flangesIn_6 r0 n x1 x2 x3 x4 x5 y125 M K) ∧ ((nI 1) = 0 → ((¬ (nI 1) = 0 → ∀ y127 : Int32, y127 = x6 + (nI 1) → w_X3_flangesIn_6 r0 n x1 x2 x3 x4 x5 y127 M K) ∧ ((nI 1) = 0 → ((¬ (nI 1) = 0 → ∀ y129 : Int32, y129 = x6 + (nI 1) → w_X3_flangesIn_6 r0 n x1 x2 x3 x4 x5 y129 M K) ∧ ((nI 1) = 0 → ((x4 < x3 → ∀ y131 : Int32, y131 = x6 + (nI 1) → w_X3_flangesIn_6 r0 n x1 x2 x3 x4 x5 y131 M K) ∧ (¬ x4 < x3 → ∀ y132 : Int32, y132 = (x5 ||| ((nI 1) <<< (x6 &&& 31))) → ∀ y133 : Int32, y133 = x6 + (nI 1) → w_X3_flangesIn_6 r0 n x1 x2 x3 x4 y132 y133 M K))))))))))))))))))))))))
set_option maxHeartbeats 4000000 in
set_option maxRecDepth 100000 in
theorem lp_X3_flangesIn_6 {E : EN} {r0 : Nat} {x1 : Int32} {x2 : Int32} {x3 : Int32} {x4 : Int32} {Qf : PST} {K : Int32 → Int32 → (Nat → Nat → Int32) → Prop} (h0 : isH r0) (hK : ∀ (z5 : Int32) (z6 : Int32) (M : Nat → Nat → Int32), K z5 z6 M → WP E iX3_flangesIn 1 0 0 false 124 [(5, .int z5)] [] σC 46 M Qf) : ∀ (nn : Nat) (x5 : Int32) (x6 : Int32) (M : Nat → Nat → Int32), w_X3_flangesIn_6 r0 nn x1 x2 x3 x4 x5 x6 M K → WP E iX3_flangesIn 1 0 0 false 6 [(0, .ref r0), (1, .int x1), (2, .int x2), (3, .int x3), (4, .int x4), (5, .int x5), (6, .int x6)] [] σC 46 M Qf := by
  intro nn
  induction nn with
  | zero => intro x5 x6 M hs; exact hs.elim
  | succ n ih =>
    intro x5 x6 M hs
    unfold w_X3_flangesIn_6 at hs
    refine wp_iload 6 dX3_flangesIn_6 rfl ?_
    refine wp_aload_n 0 dX3_flangesIn_8 rfl ?_
    refine wp_get (v := .int (M r0 0)) dX3_flangesIn_9 (σ_isH h0) (lt_isH h0) rfl in_X3_flangesIn_X3 0 (by decide) fl_X3_flangesIn_42 rfl rfl ?_
    refine wp_icmp_ge (tgt := 124) dX3_flangesIn_12 (by decide) (fun c1 => ?_) (fun c1 => ?_)
    · have hs := hs.1 c1
      refine wp_sub (ls' := [(5, .int x5)]) [5] rfl ?_
      exact hK _ _ _ hs
    · have hs := hs.2 c1
      refine wp_iload 6 dX3_flangesIn_15 rfl ?_
      refine wp_bipush (v := (nI 8)) dX3_flangesIn_17 (by decide) ?_
      refine wp_icmp_ge (tgt := 124) dX3_flangesIn_19 (by decide) (fun c2 => ?_) (fun c2 => ?_)
      · have hs := hs.1 c2
        refine wp_sub (ls' := [(5, .int x5)]) [5] rfl ?_
        exact hK _ _ _ hs
      · have hs := hs.2 c2
        refine wp_aload_n 0 dX3_flangesIn_22 rfl ?_
        refine wp_get (v := .ref (r0 + 2)) dX3_flangesIn_23 (σ_isH h0) (lt_isH h0) rfl in_X3_flangesIn_X3 6 (by decide) fl_X3_flangesIn_15 rfl rfl ?_
        refine wp_iload 6 dX3_flangesIn_26 rfl ?_
        have hv := hs.1
        have hs := hs.2
        refine wp_iald (σ_isH2 h0) (lt_isH2 h0) hv dX3_flangesIn_28 ?_
        refine wp_iload_n 1 dX3_flangesIn_29 rfl ?_
        refine wp_icmp_lt (tgt := 44) dX3_flangesIn_30 (by decide) (fun c3 => ?_) (fun c3 => ?_)
        · have hs := hs.1 c3
          refine wp_iconst (v := (nI 1)) dX3_flangesIn_44 (by decide) ?_
          refine wp_goto (tgt := 49) dX3_flangesIn_45 (by decide) ?_
          refine wp_istore (ls' := [(0, .ref r0), (1, .int x1), (2, .int x2), (3, .int x3), (4, .int x4), (5, .int x5), (6, .int x6), (7, .int (nI 1))]) [1, 2, 3, 4, 5, 6, 7, 0] dX3_flangesIn_49 rfl (by decide) ?_
          refine wp_aload_n 0 dX3_flangesIn_51 rfl ?_
          refine wp_get (v := .ref (r0 + 3)) dX3_flangesIn_52 (σ_isH h0) (lt_isH h0) rfl in_X3_flangesIn_X3 7 (by decide) fl_X3_flangesIn_18 rfl rfl ?_
          refine wp_iload 6 dX3_flangesIn_55 rfl ?_
          have hv := hs.1
          have hs := hs.2
          refine wp_iald (σ_isH3 h0) (lt_isH3 h0) hv dX3_flangesIn_57 ?_
          refine wp_iload 4 dX3_flangesIn_58 rfl ?_
          refine wp_icmp_le (tgt := 67) dX3_flangesIn_60 (by decide) (fun c4 => ?_) (fun c4 => ?_)
          · have hs := hs.1 c4
            refine wp_iconst (v := (nI 0)) dX3_flangesIn_67 (by decide) ?_
            refine wp_istore (ls' := [(0, .ref r0), (1, .int x1), (2, .int x2), (3, .int x3), (4, .int x4), (5, .int x5), (6, .int x6), (7, .int (nI 1)), (8, .int (nI 0))]) [1, 2, 3, 4, 5, 6, 7, 8, 0] dX3_flangesIn_68 rfl (by decide) ?_
            refine wp_aload_n 0 dX3_flangesIn_70 rfl ?_
            refine wp_get (v := .ref (r0 + 4)) dX3_flangesIn_71 (σ_isH h0) (lt_isH h0) rfl in_X3_flangesIn_X3 8 (by decide) fl_X3_flangesIn_21 rfl rfl ?_
            refine wp_iload 6 dX3_flangesIn_74 rfl ?_
            have hv := hs.1
            have hs := hs.2
            refine wp_iald (σ_isH4 h0) (lt_isH4 h0) hv dX3_flangesIn_76 ?_
            refine wp_iload_n 3 dX3_flangesIn_77 rfl ?_
            refine wp_icmp_ge (tgt := 85) dX3_flangesIn_78 (by decide) (fun c5 => ?_) (fun c5 => ?_)
            · have hs := hs.1 c5
              refine wp_iconst (v := (nI 0)) dX3_flangesIn_85 (by decide) ?_
              refine wp_istore (ls' := [(0, .ref r0), (1, .int x1), (2, .int x2), (3, .int x3), (4, .int x4), (5, .int x5), (6, .int x6), (7, .int (nI 1)), (8, .int (nI 0)), (9, .int (nI 0))]) [1, 2, 3, 4, 5, 6, 7, 8, 9, 0] dX3_flangesIn_86 rfl (by decide) ?_
              refine wp_iload 7 dX3_flangesIn_88 rfl ?_
              refine wp_if_ne (tgt := 118) dX3_flangesIn_90 (by decide) (fun c6 => ?_) (fun c6 => ?_)
              · have hs := hs.1 c6
                obtain ⟨y7, ey7⟩ : ∃ y : Int32, y = x6 + (nI 1) := ⟨_, rfl⟩
                have hs := hs y7 ey7
                refine wp_iinc (v := y7) (ls' := [(0, .ref r0), (1, .int x1), (2, .int x2), (3, .int x3), (4, .int x4), (5, .int x5), (6, .int y7), (7, .int (nI 1)), (8, .int (nI 0)), (9, .int (nI 0))]) 6 [1, 2, 3, 4, 5, 6, 0, 7, 8, 9] dX3_flangesIn_118 rfl (by rw [ey7]; rfl) rfl (by decide) ?_
                refine wp_goto (tgt := 6) dX3_flangesIn_121 (by decide) ?_
                refine wp_sub (ls' := [(0, .ref r0), (1, .int x1), (2, .int x2), (3, .int x3), (4, .int x4), (5, .int x5), (6, .int y7)]) [0, 1, 2, 3, 4, 5, 6] rfl ?_
                exact ih _ _ _ hs
              · have hs := hs.2 c6
                refine wp_iload 8 dX3_flangesIn_93 rfl ?_
                refine wp_if_ne (tgt := 118) dX3_flangesIn_95 (by decide) (fun c8 => ?_) (fun c8 => ?_)
                · have hs := hs.1 c8
                  obtain ⟨y9, ey9⟩ : ∃ y : Int32, y = x6 + (nI 1) := ⟨_, rfl⟩
                  have hs := hs y9 ey9
                  refine wp_iinc (v := y9) (ls' := [(0, .ref r0), (1, .int x1), (2, .int x2), (3, .int x3), (4, .int x4), (5, .int x5), (6, .int y9), (7, .int (nI 1)), (8, .int (nI 0)), (9, .int (nI 0))]) 6 [1, 2, 3, 4, 5, 6, 0, 7, 8, 9] dX3_flangesIn_118 rfl (by rw [ey9]; rfl) rfl (by decide) ?_
                  refine wp_goto (tgt := 6) dX3_flangesIn_121 (by decide) ?_
                  refine wp_sub (ls' := [(0, .ref r0), (1, .int x1), (2, .int x2), (3, .int x3), (4, .int x4), (5, .int x5), (6, .int y9)]) [0, 1, 2, 3, 4, 5, 6] rfl ?_
                  exact ih _ _ _ hs
                · have hs := hs.2 c8
                  refine wp_iload 9 dX3_flangesIn_98 rfl ?_
                  refine wp_if_ne (tgt := 118) dX3_flangesIn_100 (by decide) (fun c10 => ?_) (fun c10 => ?_)
                  · have hs := hs.1 c10
                    obtain ⟨y11, ey11⟩ : ∃ y : Int32, y = x6 + (nI 1) := ⟨_, rfl⟩
                    have hs := hs y11 ey11
                    refine wp_iinc (v := y11) (ls' := [(0, .ref r0), (1, .int x1), (2, .int x2), (3, .int x3), (4, .int x4), (5, .int x5), (6, .int y11), (7, .int (nI 1)), (8, .int (nI 0)), (9, .int (nI 0))]) 6 [1, 2, 3, 4, 5, 6, 0, 7, 8, 9] dX3_flangesIn_118 rfl (by rw [ey11]; rfl) rfl (by decide) ?_
                    refine wp_goto (tgt := 6) dX3_flangesIn_121 (by decide) ?_
                    refine wp_sub (ls' := [(0, .ref r0), (1, .int x1), (2, .int x2), (3, .int x3), (4, .int x4), (5, .int x5), (6, .int y11)]) [0, 1, 2, 3, 4, 5, 6] rfl ?_
                    exact ih _ _ _ hs
                  · have hs := hs.2 c10
                    refine wp_iload_n 3 dX3_flangesIn_103 rfl ?_
                    refine wp_iload 4 dX3_flangesIn_104 rfl ?_
                    refine wp_icmp_gt (tgt := 118) dX3_flangesIn_106 (by decide) (fun c12 => ?_) (fun c12 => ?_)
                    · have hs := hs.1 c12
                      obtain ⟨y13, ey13⟩ : ∃ y : Int32, y = x6 + (nI 1) := ⟨_, rfl⟩
                      have hs := hs y13 ey13
                      refine wp_iinc (v := y13) (ls' := [(0, .ref r0), (1, .int x1), (2, .int x2), (3, .int x3), (4, .int x4), (5, .int x5), (6, .int y13), (7, .int (nI 1)), (8, .int (nI 0)), (9, .int (nI 0))]) 6 [1, 2, 3, 4, 5, 6, 0, 7, 8, 9] dX3_flangesIn_118 rfl (by rw [ey13]; rfl) rfl (by decide) ?_
                      refine wp_goto (tgt := 6) dX3_flangesIn_121 (by decide) ?_
                      refine wp_sub (ls' := [(0, .ref r0), (1, .int x1), (2, .int x2), (3, .int x3), (4, .int x4), (5, .int x5), (6, .int y13)]) [0, 1, 2, 3, 4, 5, 6] rfl ?_
                      exact ih _ _ _ hs
                    · have hs := hs.2 c12
                      refine wp_iload 5 dX3_flangesIn_109 rfl ?_
                      refine wp_iconst (v := (nI 1)) dX3_flangesIn_111 (by decide) ?_
                      refine wp_iload 6 dX3_flangesIn_112 rfl ?_
                      refine wp_ishl dX3_flangesIn_114 ?_
                      refine wp_ior dX3_flangesIn_115 ?_
                      refine wp_topi (fun y14 ey14 => ?_)
                      have hs := hs y14 ey14
                      refine wp_istore (ls' := [(0, .ref r0), (1, .int x1), (2, .int x2), (3, .int x3), (4, .int x4), (5, .int y14), (6, .int x6), (7, .int (nI 1)), (8, .int (nI 0)), (9, .int (nI 0))]) [1, 2, 3, 4, 5, 0, 6, 7, 8, 9] dX3_flangesIn_116 rfl (by decide) ?_
                      obtain ⟨y15, ey15⟩ : ∃ y : Int32, y = x6 + (nI 1) := ⟨_, rfl⟩
                      have hs := hs y15 ey15
                      refine wp_iinc (v := y15) (ls' := [(0, .ref r0), (1, .int x1), (2, .int x2), (3, .int x3), (4, .int x4), (5, .int y14), (6, .int y15), (7, .int (nI 1)), (8, .int (nI 0)), (9, .int (nI 0))]) 6 [1, 2, 3, 4, 5, 6, 0, 7, 8, 9] dX3_flangesIn_118 rfl (by rw [ey15]; rfl) rfl (by decide) ?_
                      refine wp_goto (tgt := 6) dX3_flangesIn_121 (by decide) ?_
                      refine wp_sub (ls' := [(0, .ref r0), (1, .int x1), (2, .int x2), (3, .int x3), (4, .int x4), (5, .int y14), (6, .int y15)]) [0, 1, 2, 3, 4, 5, 6] rfl ?_
                      exact ih _ _ _ hs
            · have hs := hs.2 c5
              refine wp_iconst (v := (nI 1)) dX3_flangesIn_81 (by decide) ?_
              refine wp_goto (tgt := 86) dX3_flangesIn_82 (by decide) ?_
              refine wp_istore (ls' := [(0, .ref r0), (1, .int x1), (2, .int x2), (3, .int x3), (4, .int x4), (5, .int x5), (6, .int x6), (7, .int (nI 1)), (8, .int (nI 0)), (9, .int (nI 1))]) [1, 2, 3, 4, 5, 6, 7, 8, 9, 0] dX3_flangesIn_86 rfl (by decide) ?_
              refine wp_iload 7 dX3_flangesIn_88 rfl ?_
              refine wp_if_ne (tgt := 118) dX3_flangesIn_90 (by decide) (fun c16 => ?_) (fun c16 => ?_)
              · have hs := hs.1 c16
                obtain ⟨y17, ey17⟩ : ∃ y : Int32, y = x6 + (nI 1) := ⟨_, rfl⟩
                have hs := hs y17 ey17
                refine wp_iinc (v := y17) (ls' := [(0, .ref r0), (1, .int x1), (2, .int x2), (3, .int x3), (4, .int x4), (5, .int x5), (6, .int y17), (7, .int (nI 1)), (8, .int (nI 0)), (9, .int (nI 1))]) 6 [1, 2, 3, 4, 5, 6, 0, 7, 8, 9] dX3_flangesIn_118 rfl (by rw [ey17]; rfl) rfl (by decide) ?_
                refine wp_goto (tgt := 6) dX3_flangesIn_121 (by decide) ?_
                refine wp_sub (ls' := [(0, .ref r0), (1, .int x1), (2, .int x2), (3, .int x3), (4, .int x4), (5, .int x5), (6, .int y17)]) [0, 1, 2, 3, 4, 5, 6] rfl ?_
                exact ih _ _ _ hs
              · have hs := hs.2 c16
                refine wp_iload 8 dX3_flangesIn_93 rfl ?_
                refine wp_if_ne (tgt := 118) dX3_flangesIn_95 (by decide) (fun c18 => ?_) (fun c18 => ?_)
                · have hs := hs.1 c18
                  obtain ⟨y19, ey19⟩ : ∃ y : Int32, y = x6 + (nI 1) := ⟨_, rfl⟩
                  have hs := hs y19 ey19
                  refine wp_iinc (v := y19) (ls' := [(0, .ref r0), (1, .int x1), (2, .int x2), (3, .int x3), (4, .int x4), (5, .int x5), (6, .int y19), (7, .int (nI 1)), (8, .int (nI 0)), (9, .int (nI 1))]) 6 [1, 2, 3, 4, 5, 6, 0, 7, 8, 9] dX3_flangesIn_118 rfl (by rw [ey19]; rfl) rfl (by decide) ?_
                  refine wp_goto (tgt := 6) dX3_flangesIn_121 (by decide) ?_
                  refine wp_sub (ls' := [(0, .ref r0), (1, .int x1), (2, .int x2), (3, .int x3), (4, .int x4), (5, .int x5), (6, .int y19)]) [0, 1, 2, 3, 4, 5, 6] rfl ?_
                  exact ih _ _ _ hs
                · have hs := hs.2 c18
                  refine wp_iload 9 dX3_flangesIn_98 rfl ?_
                  refine wp_if_ne (tgt := 118) dX3_flangesIn_100 (by decide) (fun c20 => ?_) (fun c20 => ?_)
                  · have hs := hs.1 c20
                    obtain ⟨y21, ey21⟩ : ∃ y : Int32, y = x6 + (nI 1) := ⟨_, rfl⟩
                    have hs := hs y21 ey21
                    refine wp_iinc (v := y21) (ls' := [(0, .ref r0), (1, .int x1), (2, .int x2), (3, .int x3), (4, .int x4), (5, .int x5), (6, .int y21), (7, .int (nI 1)), (8, .int (nI 0)), (9, .int (nI 1))]) 6 [1, 2, 3, 4, 5, 6, 0, 7, 8, 9] dX3_flangesIn_118 rfl (by rw [ey21]; rfl) rfl (by decide) ?_
                    refine wp_goto (tgt := 6) dX3_flangesIn_121 (by decide) ?_
                    refine wp_sub (ls' := [(0, .ref r0), (1, .int x1), (2, .int x2), (3, .int x3), (4, .int x4), (5, .int x5), (6, .int y21)]) [0, 1, 2, 3, 4, 5, 6] rfl ?_
                    exact ih _ _ _ hs
                  · have hs := hs.2 c20
                    refine wp_iload_n 3 dX3_flangesIn_103 rfl ?_
                    refine wp_iload 4 dX3_flangesIn_104 rfl ?_
                    refine wp_icmp_gt (tgt := 118) dX3_flangesIn_106 (by decide) (fun c22 => ?_) (fun c22 => ?_)
                    · have hs := hs.1 c22
                      obtain ⟨y23, ey23⟩ : ∃ y : Int32, y = x6 + (nI 1) := ⟨_, rfl⟩
                      have hs := hs y23 ey23
                      refine wp_iinc (v := y23) (ls' := [(0, .ref r0), (1, .int x1), (2, .int x2), (3, .int x3), (4, .int x4), (5, .int x5), (6, .int y23), (7, .int (nI 1)), (8, .int (nI 0)), (9, .int (nI 1))]) 6 [1, 2, 3, 4, 5, 6, 0, 7, 8, 9] dX3_flangesIn_118 rfl (by rw [ey23]; rfl) rfl (by decide) ?_
                      refine wp_goto (tgt := 6) dX3_flangesIn_121 (by decide) ?_
                      refine wp_sub (ls' := [(0, .ref r0), (1, .int x1), (2, .int x2), (3, .int x3), (4, .int x4), (5, .int x5), (6, .int y23)]) [0, 1, 2, 3, 4, 5, 6] rfl ?_
                      exact ih _ _ _ hs
                    · have hs := hs.2 c22
                      refine wp_iload 5 dX3_flangesIn_109 rfl ?_
                      refine wp_iconst (v := (nI 1)) dX3_flangesIn_111 (by decide) ?_
                      refine wp_iload 6 dX3_flangesIn_112 rfl ?_
                      refine wp_ishl dX3_flangesIn_114 ?_
                      refine wp_ior dX3_flangesIn_115 ?_
                      refine wp_topi (fun y24 ey24 => ?_)
                      have hs := hs y24 ey24
                      refine wp_istore (ls' := [(0, .ref r0), (1, .int x1), (2, .int x2), (3, .int x3), (4, .int x4), (5, .int y24), (6, .int x6), (7, .int (nI 1)), (8, .int (nI 0)), (9, .int (nI 1))]) [1, 2, 3, 4, 5, 0, 6, 7, 8, 9] dX3_flangesIn_116 rfl (by decide) ?_
                      obtain ⟨y25, ey25⟩ : ∃ y : Int32, y = x6 + (nI 1) := ⟨_, rfl⟩
                      have hs := hs y25 ey25
                      refine wp_iinc (v := y25) (ls' := [(0, .ref r0), (1, .int x1), (2, .int x2), (3, .int x3), (4, .int x4), (5, .int y24), (6, .int y25), (7, .int (nI 1)), (8, .int (nI 0)), (9, .int (nI 1))]) 6 [1, 2, 3, 4, 5, 6, 0, 7, 8, 9] dX3_flangesIn_118 rfl (by rw [ey25]; rfl) rfl (by decide) ?_
                      refine wp_goto (tgt := 6) dX3_flangesIn_121 (by decide) ?_
                      refine wp_sub (ls' := [(0, .ref r0), (1, .int x1), (2, .int x2), (3, .int x3), (4, .int x4), (5, .int y24), (6, .int y25)]) [0, 1, 2, 3, 4, 5, 6] rfl ?_
                      exact ih _ _ _ hs
          · have hs := hs.2 c4
            refine wp_iconst (v := (nI 1)) dX3_flangesIn_63 (by decide) ?_
            refine wp_goto (tgt := 68) dX3_flangesIn_64 (by decide) ?_
            refine wp_istore (ls' := [(0, .ref r0), (1, .int x1), (2, .int x2), (3, .int x3), (4, .int x4), (5, .int x5), (6, .int x6), (7, .int (nI 1)), (8, .int (nI 1))]) [1, 2, 3, 4, 5, 6, 7, 8, 0] dX3_flangesIn_68 rfl (by decide) ?_
            refine wp_aload_n 0 dX3_flangesIn_70 rfl ?_
            refine wp_get (v := .ref (r0 + 4)) dX3_flangesIn_71 (σ_isH h0) (lt_isH h0) rfl in_X3_flangesIn_X3 8 (by decide) fl_X3_flangesIn_21 rfl rfl ?_
            refine wp_iload 6 dX3_flangesIn_74 rfl ?_
            have hv := hs.1
            have hs := hs.2
            refine wp_iald (σ_isH4 h0) (lt_isH4 h0) hv dX3_flangesIn_76 ?_
            refine wp_iload_n 3 dX3_flangesIn_77 rfl ?_
            refine wp_icmp_ge (tgt := 85) dX3_flangesIn_78 (by decide) (fun c26 => ?_) (fun c26 => ?_)
            · have hs := hs.1 c26
              refine wp_iconst (v := (nI 0)) dX3_flangesIn_85 (by decide) ?_
              refine wp_istore (ls' := [(0, .ref r0), (1, .int x1), (2, .int x2), (3, .int x3), (4, .int x4), (5, .int x5), (6, .int x6), (7, .int (nI 1)), (8, .int (nI 1)), (9, .int (nI 0))]) [1, 2, 3, 4, 5, 6, 7, 8, 9, 0] dX3_flangesIn_86 rfl (by decide) ?_
              refine wp_iload 7 dX3_flangesIn_88 rfl ?_
              refine wp_if_ne (tgt := 118) dX3_flangesIn_90 (by decide) (fun c27 => ?_) (fun c27 => ?_)
              · have hs := hs.1 c27
                obtain ⟨y28, ey28⟩ : ∃ y : Int32, y = x6 + (nI 1) := ⟨_, rfl⟩
                have hs := hs y28 ey28
                refine wp_iinc (v := y28) (ls' := [(0, .ref r0), (1, .int x1), (2, .int x2), (3, .int x3), (4, .int x4), (5, .int x5), (6, .int y28), (7, .int (nI 1)), (8, .int (nI 1)), (9, .int (nI 0))]) 6 [1, 2, 3, 4, 5, 6, 0, 7, 8, 9] dX3_flangesIn_118 rfl (by rw [ey28]; rfl) rfl (by decide) ?_
                refine wp_goto (tgt := 6) dX3_flangesIn_121 (by decide) ?_
                refine wp_sub (ls' := [(0, .ref r0), (1, .int x1), (2, .int x2), (3, .int x3), (4, .int x4), (5, .int x5), (6, .int y28)]) [0, 1, 2, 3, 4, 5, 6] rfl ?_
                exact ih _ _ _ hs
              · have hs := hs.2 c27
                refine wp_iload 8 dX3_flangesIn_93 rfl ?_
                refine wp_if_ne (tgt := 118) dX3_flangesIn_95 (by decide) (fun c29 => ?_) (fun c29 => ?_)
                · have hs := hs.1 c29
                  obtain ⟨y30, ey30⟩ : ∃ y : Int32, y = x6 + (nI 1) := ⟨_, rfl⟩
                  have hs := hs y30 ey30
                  refine wp_iinc (v := y30) (ls' := [(0, .ref r0), (1, .int x1), (2, .int x2), (3, .int x3), (4, .int x4), (5, .int x5), (6, .int y30), (7, .int (nI 1)), (8, .int (nI 1)), (9, .int (nI 0))]) 6 [1, 2, 3, 4, 5, 6, 0, 7, 8, 9] dX3_flangesIn_118 rfl (by rw [ey30]; rfl) rfl (by decide) ?_
                  refine wp_goto (tgt := 6) dX3_flangesIn_121 (by decide) ?_
                  refine wp_sub (ls' := [(0, .ref r0), (1, .int x1), (2, .int x2), (3, .int x3), (4, .int x4), (5, .int x5), (6, .int y30)]) [0, 1, 2, 3, 4, 5, 6] rfl ?_
                  exact ih _ _ _ hs
                · have hs := hs.2 c29
                  refine wp_iload 9 dX3_flangesIn_98 rfl ?_
                  refine wp_if_ne (tgt := 118) dX3_flangesIn_100 (by decide) (fun c31 => ?_) (fun c31 => ?_)
                  · have hs := hs.1 c31
                    obtain ⟨y32, ey32⟩ : ∃ y : Int32, y = x6 + (nI 1) := ⟨_, rfl⟩
                    have hs := hs y32 ey32
                    refine wp_iinc (v := y32) (ls' := [(0, .ref r0), (1, .int x1), (2, .int x2), (3, .int x3), (4, .int x4), (5, .int x5), (6, .int y32), (7, .int (nI 1)), (8, .int (nI 1)), (9, .int (nI 0))]) 6 [1, 2, 3, 4, 5, 6, 0, 7, 8, 9] dX3_flangesIn_118 rfl (by rw [ey32]; rfl) rfl (by decide) ?_
                    refine wp_goto (tgt := 6) dX3_flangesIn_121 (by decide) ?_
                    refine wp_sub (ls' := [(0, .ref r0), (1, .int x1), (2, .int x2), (3, .int x3), (4, .int x4), (5, .int x5), (6, .int y32)]) [0, 1, 2, 3, 4, 5, 6] rfl ?_
                    exact ih _ _ _ hs
                  · have hs := hs.2 c31
                    refine wp_iload_n 3 dX3_flangesIn_103 rfl ?_
                    refine wp_iload 4 dX3_flangesIn_104 rfl ?_
                    refine wp_icmp_gt (tgt := 118) dX3_flangesIn_106 (by decide) (fun c33 => ?_) (fun c33 => ?_)
                    · have hs := hs.1 c33
                      obtain ⟨y34, ey34⟩ : ∃ y : Int32, y = x6 + (nI 1) := ⟨_, rfl⟩
                      have hs := hs y34 ey34
                      refine wp_iinc (v := y34) (ls' := [(0, .ref r0), (1, .int x1), (2, .int x2), (3, .int x3), (4, .int x4), (5, .int x5), (6, .int y34), (7, .int (nI 1)), (8, .int (nI 1)), (9, .int (nI 0))]) 6 [1, 2, 3, 4, 5, 6, 0, 7, 8, 9] dX3_flangesIn_118 rfl (by rw [ey34]; rfl) rfl (by decide) ?_
                      refine wp_goto (tgt := 6) dX3_flangesIn_121 (by decide) ?_
                      refine wp_sub (ls' := [(0, .ref r0), (1, .int x1), (2, .int x2), (3, .int x3), (4, .int x4), (5, .int x5), (6, .int y34)]) [0, 1, 2, 3, 4, 5, 6] rfl ?_
                      exact ih _ _ _ hs
                    · have hs := hs.2 c33
                      refine wp_iload 5 dX3_flangesIn_109 rfl ?_
                      refine wp_iconst (v := (nI 1)) dX3_flangesIn_111 (by decide) ?_
                      refine wp_iload 6 dX3_flangesIn_112 rfl ?_
                      refine wp_ishl dX3_flangesIn_114 ?_
                      refine wp_ior dX3_flangesIn_115 ?_
                      refine wp_topi (fun y35 ey35 => ?_)
                      have hs := hs y35 ey35
                      refine wp_istore (ls' := [(0, .ref r0), (1, .int x1), (2, .int x2), (3, .int x3), (4, .int x4), (5, .int y35), (6, .int x6), (7, .int (nI 1)), (8, .int (nI 1)), (9, .int (nI 0))]) [1, 2, 3, 4, 5, 0, 6, 7, 8, 9] dX3_flangesIn_116 rfl (by decide) ?_
                      obtain ⟨y36, ey36⟩ : ∃ y : Int32, y = x6 + (nI 1) := ⟨_, rfl⟩
                      have hs := hs y36 ey36
                      refine wp_iinc (v := y36) (ls' := [(0, .ref r0), (1, .int x1), (2, .int x2), (3, .int x3), (4, .int x4), (5, .int y35), (6, .int y36), (7, .int (nI 1)), (8, .int (nI 1)), (9, .int (nI 0))]) 6 [1, 2, 3, 4, 5, 6, 0, 7, 8, 9] dX3_flangesIn_118 rfl (by rw [ey36]; rfl) rfl (by decide) ?_
                      refine wp_goto (tgt := 6) dX3_flangesIn_121 (by decide) ?_
                      refine wp_sub (ls' := [(0, .ref r0), (1, .int x1), (2, .int x2), (3, .int x3), (4, .int x4), (5, .int y35), (6, .int y36)]) [0, 1, 2, 3, 4, 5, 6] rfl ?_
                      exact ih _ _ _ hs
            · have hs := hs.2 c26
              refine wp_iconst (v := (nI 1)) dX3_flangesIn_81 (by decide) ?_
              refine wp_goto (tgt := 86) dX3_flangesIn_82 (by decide) ?_
              refine wp_istore (ls' := [(0, .ref r0), (1, .int x1), (2, .int x2), (3, .int x3), (4, .int x4), (5, .int x5), (6, .int x6), (7, .int (nI 1)), (8, .int (nI 1)), (9, .int (nI 1))]) [1, 2, 3, 4, 5, 6, 7, 8, 9, 0] dX3_flangesIn_86 rfl (by decide) ?_
              refine wp_iload 7 dX3_flangesIn_88 rfl ?_
              refine wp_if_ne (tgt := 118) dX3_flangesIn_90 (by decide) (fun c37 => ?_) (fun c37 => ?_)
              · have hs := hs.1 c37
                obtain ⟨y38, ey38⟩ : ∃ y : Int32, y = x6 + (nI 1) := ⟨_, rfl⟩
                have hs := hs y38 ey38
                refine wp_iinc (v := y38) (ls' := [(0, .ref r0), (1, .int x1), (2, .int x2), (3, .int x3), (4, .int x4), (5, .int x5), (6, .int y38), (7, .int (nI 1)), (8, .int (nI 1)), (9, .int (nI 1))]) 6 [1, 2, 3, 4, 5, 6, 0, 7, 8, 9] dX3_flangesIn_118 rfl (by rw [ey38]; rfl) rfl (by decide) ?_
                refine wp_goto (tgt := 6) dX3_flangesIn_121 (by decide) ?_
                refine wp_sub (ls' := [(0, .ref r0), (1, .int x1), (2, .int x2), (3, .int x3), (4, .int x4), (5, .int x5), (6, .int y38)]) [0, 1, 2, 3, 4, 5, 6] rfl ?_
                exact ih _ _ _ hs
              · have hs := hs.2 c37
                refine wp_iload 8 dX3_flangesIn_93 rfl ?_
                refine wp_if_ne (tgt := 118) dX3_flangesIn_95 (by decide) (fun c39 => ?_) (fun c39 => ?_)
                · have hs := hs.1 c39
                  obtain ⟨y40, ey40⟩ : ∃ y : Int32, y = x6 + (nI 1) := ⟨_, rfl⟩
                  have hs := hs y40 ey40
                  refine wp_iinc (v := y40) (ls' := [(0, .ref r0), (1, .int x1), (2, .int x2), (3, .int x3), (4, .int x4), (5, .int x5), (6, .int y40), (7, .int (nI 1)), (8, .int (nI 1)), (9, .int (nI 1))]) 6 [1, 2, 3, 4, 5, 6, 0, 7, 8, 9] dX3_flangesIn_118 rfl (by rw [ey40]; rfl) rfl (by decide) ?_
                  refine wp_goto (tgt := 6) dX3_flangesIn_121 (by decide) ?_
                  refine wp_sub (ls' := [(0, .ref r0), (1, .int x1), (2, .int x2), (3, .int x3), (4, .int x4), (5, .int x5), (6, .int y40)]) [0, 1, 2, 3, 4, 5, 6] rfl ?_
                  exact ih _ _ _ hs
                · have hs := hs.2 c39
                  refine wp_iload 9 dX3_flangesIn_98 rfl ?_
                  refine wp_if_ne (tgt := 118) dX3_flangesIn_100 (by decide) (fun c41 => ?_) (fun c41 => ?_)
                  · have hs := hs.1 c41
                    obtain ⟨y42, ey42⟩ : ∃ y : Int32, y = x6 + (nI 1) := ⟨_, rfl⟩
                    have hs := hs y42 ey42
                    refine wp_iinc (v := y42) (ls' := [(0, .ref r0), (1, .int x1), (2, .int x2), (3, .int x3), (4, .int x4), (5, .int x5), (6, .int y42), (7, .int (nI 1)), (8, .int (nI 1)), (9, .int (nI 1))]) 6 [1, 2, 3, 4, 5, 6, 0, 7, 8, 9] dX3_flangesIn_118 rfl (by rw [ey42]; rfl) rfl (by decide) ?_
                    refine wp_goto (tgt := 6) dX3_flangesIn_121 (by decide) ?_
                    refine wp_sub (ls' := [(0, .ref r0), (1, .int x1), (2, .int x2), (3, .int x3), (4, .int x4), (5, .int x5), (6, .int y42)]) [0, 1, 2, 3, 4, 5, 6] rfl ?_
                    exact ih _ _ _ hs
                  · have hs := hs.2 c41
                    refine wp_iload_n 3 dX3_flangesIn_103 rfl ?_
                    refine wp_iload 4 dX3_flangesIn_104 rfl ?_
                    refine wp_icmp_gt (tgt := 118) dX3_flangesIn_106 (by decide) (fun c43 => ?_) (fun c43 => ?_)
                    · have hs := hs.1 c43
                      obtain ⟨y44, ey44⟩ : ∃ y : Int32, y = x6 + (nI 1) := ⟨_, rfl⟩
                      have hs := hs y44 ey44
                      refine wp_iinc (v := y44) (ls' := [(0, .ref r0), (1, .int x1), (2, .int x2), (3, .int x3), (4, .int x4), (5, .int x5), (6, .int y44), (7, .int (nI 1)), (8, .int (nI 1)), (9, .int (nI 1))]) 6 [1, 2, 3, 4, 5, 6, 0, 7, 8, 9] dX3_flangesIn_118 rfl (by rw [ey44]; rfl) rfl (by decide) ?_
                      refine wp_goto (tgt := 6) dX3_flangesIn_121 (by decide) ?_
                      refine wp_sub (ls' := [(0, .ref r0), (1, .int x1), (2, .int x2), (3, .int x3), (4, .int x4), (5, .int x5), (6, .int y44)]) [0, 1, 2, 3, 4, 5, 6] rfl ?_
                      exact ih _ _ _ hs
                    · have hs := hs.2 c43
                      refine wp_iload 5 dX3_flangesIn_109 rfl ?_
                      refine wp_iconst (v := (nI 1)) dX3_flangesIn_111 (by decide) ?_
                      refine wp_iload 6 dX3_flangesIn_112 rfl ?_
                      refine wp_ishl dX3_flangesIn_114 ?_
                      refine wp_ior dX3_flangesIn_115 ?_
                      refine wp_topi (fun y45 ey45 => ?_)
                      have hs := hs y45 ey45
                      refine wp_istore (ls' := [(0, .ref r0), (1, .int x1), (2, .int x2), (3, .int x3), (4, .int x4), (5, .int y45), (6, .int x6), (7, .int (nI 1)), (8, .int (nI 1)), (9, .int (nI 1))]) [1, 2, 3, 4, 5, 0, 6, 7, 8, 9] dX3_flangesIn_116 rfl (by decide) ?_
                      obtain ⟨y46, ey46⟩ : ∃ y : Int32, y = x6 + (nI 1) := ⟨_, rfl⟩
                      have hs := hs y46 ey46
                      refine wp_iinc (v := y46) (ls' := [(0, .ref r0), (1, .int x1), (2, .int x2), (3, .int x3), (4, .int x4), (5, .int y45), (6, .int y46), (7, .int (nI 1)), (8, .int (nI 1)), (9, .int (nI 1))]) 6 [1, 2, 3, 4, 5, 6, 0, 7, 8, 9] dX3_flangesIn_118 rfl (by rw [ey46]; rfl) rfl (by decide) ?_
                      refine wp_goto (tgt := 6) dX3_flangesIn_121 (by decide) ?_
                      refine wp_sub (ls' := [(0, .ref r0), (1, .int x1), (2, .int x2), (3, .int x3), (4, .int x4), (5, .int y45), (6, .int y46)]) [0, 1, 2, 3, 4, 5, 6] rfl ?_
                      exact ih _ _ _ hs
        · have hs := hs.2 c3
          refine wp_aload_n 0 dX3_flangesIn_33 rfl ?_
          refine wp_get (v := .ref (r0 + 1)) dX3_flangesIn_34 (σ_isH h0) (lt_isH h0) rfl in_X3_flangesIn_X3 5 (by decide) fl_X3_flangesIn_9 rfl rfl ?_
          refine wp_iload 6 dX3_flangesIn_37 rfl ?_
          have hv := hs.1
          have hs := hs.2
          refine wp_iald (σ_isH1 h0) (lt_isH1 h0) hv dX3_flangesIn_39 ?_
          refine wp_iload_n 2 dX3_flangesIn_40 rfl ?_
          refine wp_icmp_le (tgt := 48) dX3_flangesIn_41 (by decide) (fun c47 => ?_) (fun c47 => ?_)
          · have hs := hs.1 c47
            refine wp_iconst (v := (nI 0)) dX3_flangesIn_48 (by decide) ?_
            refine wp_istore (ls' := [(0, .ref r0), (1, .int x1), (2, .int x2), (3, .int x3), (4, .int x4), (5, .int x5), (6, .int x6), (7, .int (nI 0))]) [1, 2, 3, 4, 5, 6, 7, 0] dX3_flangesIn_49 rfl (by decide) ?_
            refine wp_aload_n 0 dX3_flangesIn_51 rfl ?_
            refine wp_get (v := .ref (r0 + 3)) dX3_flangesIn_52 (σ_isH h0) (lt_isH h0) rfl in_X3_flangesIn_X3 7 (by decide) fl_X3_flangesIn_18 rfl rfl ?_
            refine wp_iload 6 dX3_flangesIn_55 rfl ?_
            have hv := hs.1
            have hs := hs.2
            refine wp_iald (σ_isH3 h0) (lt_isH3 h0) hv dX3_flangesIn_57 ?_
            refine wp_iload 4 dX3_flangesIn_58 rfl ?_
            refine wp_icmp_le (tgt := 67) dX3_flangesIn_60 (by decide) (fun c48 => ?_) (fun c48 => ?_)
            · have hs := hs.1 c48
              refine wp_iconst (v := (nI 0)) dX3_flangesIn_67 (by decide) ?_
              refine wp_istore (ls' := [(0, .ref r0), (1, .int x1), (2, .int x2), (3, .int x3), (4, .int x4), (5, .int x5), (6, .int x6), (7, .int (nI 0)), (8, .int (nI 0))]) [1, 2, 3, 4, 5, 6, 7, 8, 0] dX3_flangesIn_68 rfl (by decide) ?_
              refine wp_aload_n 0 dX3_flangesIn_70 rfl ?_
              refine wp_get (v := .ref (r0 + 4)) dX3_flangesIn_71 (σ_isH h0) (lt_isH h0) rfl in_X3_flangesIn_X3 8 (by decide) fl_X3_flangesIn_21 rfl rfl ?_
              refine wp_iload 6 dX3_flangesIn_74 rfl ?_
              have hv := hs.1
              have hs := hs.2
              refine wp_iald (σ_isH4 h0) (lt_isH4 h0) hv dX3_flangesIn_76 ?_
              refine wp_iload_n 3 dX3_flangesIn_77 rfl ?_
              refine wp_icmp_ge (tgt := 85) dX3_flangesIn_78 (by decide) (fun c49 => ?_) (fun c49 => ?_)
              · have hs := hs.1 c49
                refine wp_iconst (v := (nI 0)) dX3_flangesIn_85 (by decide) ?_
                refine wp_istore (ls' := [(0, .ref r0), (1, .int x1), (2, .int x2), (3, .int x3), (4, .int x4), (5, .int x5), (6, .int x6), (7, .int (nI 0)), (8, .int (nI 0)), (9, .int (nI 0))]) [1, 2, 3, 4, 5, 6, 7, 8, 9, 0] dX3_flangesIn_86 rfl (by decide) ?_
                refine wp_iload 7 dX3_flangesIn_88 rfl ?_
                refine wp_if_ne (tgt := 118) dX3_flangesIn_90 (by decide) (fun c50 => ?_) (fun c50 => ?_)
                · have hs := hs.1 c50
                  obtain ⟨y51, ey51⟩ : ∃ y : Int32, y = x6 + (nI 1) := ⟨_, rfl⟩
                  have hs := hs y51 ey51
                  refine wp_iinc (v := y51) (ls' := [(0, .ref r0), (1, .int x1), (2, .int x2), (3, .int x3), (4, .int x4), (5, .int x5), (6, .int y51), (7, .int (nI 0)), (8, .int (nI 0)), (9, .int (nI 0))]) 6 [1, 2, 3, 4, 5, 6, 0, 7, 8, 9] dX3_flangesIn_118 rfl (by rw [ey51]; rfl) rfl (by decide) ?_
                  refine wp_goto (tgt := 6) dX3_flangesIn_121 (by decide) ?_
                  refine wp_sub (ls' := [(0, .ref r0), (1, .int x1), (2, .int x2), (3, .int x3), (4, .int x4), (5, .int x5), (6, .int y51)]) [0, 1, 2, 3, 4, 5, 6] rfl ?_
                  exact ih _ _ _ hs
                · have hs := hs.2 c50
                  refine wp_iload 8 dX3_flangesIn_93 rfl ?_
                  refine wp_if_ne (tgt := 118) dX3_flangesIn_95 (by decide) (fun c52 => ?_) (fun c52 => ?_)
                  · have hs := hs.1 c52
                    obtain ⟨y53, ey53⟩ : ∃ y : Int32, y = x6 + (nI 1) := ⟨_, rfl⟩
                    have hs := hs y53 ey53
                    refine wp_iinc (v := y53) (ls' := [(0, .ref r0), (1, .int x1), (2, .int x2), (3, .int x3), (4, .int x4), (5, .int x5), (6, .int y53), (7, .int (nI 0)), (8, .int (nI 0)), (9, .int (nI 0))]) 6 [1, 2, 3, 4, 5, 6, 0, 7, 8, 9] dX3_flangesIn_118 rfl (by rw [ey53]; rfl) rfl (by decide) ?_
                    refine wp_goto (tgt := 6) dX3_flangesIn_121 (by decide) ?_
                    refine wp_sub (ls' := [(0, .ref r0), (1, .int x1), (2, .int x2), (3, .int x3), (4, .int x4), (5, .int x5), (6, .int y53)]) [0, 1, 2, 3, 4, 5, 6] rfl ?_
                    exact ih _ _ _ hs
                  · have hs := hs.2 c52
                    refine wp_iload 9 dX3_flangesIn_98 rfl ?_
                    refine wp_if_ne (tgt := 118) dX3_flangesIn_100 (by decide) (fun c54 => ?_) (fun c54 => ?_)
                    · have hs := hs.1 c54
                      obtain ⟨y55, ey55⟩ : ∃ y : Int32, y = x6 + (nI 1) := ⟨_, rfl⟩
                      have hs := hs y55 ey55
                      refine wp_iinc (v := y55) (ls' := [(0, .ref r0), (1, .int x1), (2, .int x2), (3, .int x3), (4, .int x4), (5, .int x5), (6, .int y55), (7, .int (nI 0)), (8, .int (nI 0)), (9, .int (nI 0))]) 6 [1, 2, 3, 4, 5, 6, 0, 7, 8, 9] dX3_flangesIn_118 rfl (by rw [ey55]; rfl) rfl (by decide) ?_
                      refine wp_goto (tgt := 6) dX3_flangesIn_121 (by decide) ?_
                      refine wp_sub (ls' := [(0, .ref r0), (1, .int x1), (2, .int x2), (3, .int x3), (4, .int x4), (5, .int x5), (6, .int y55)]) [0, 1, 2, 3, 4, 5, 6] rfl ?_
                      exact ih _ _ _ hs
                    · have hs := hs.2 c54
                      refine wp_iload_n 3 dX3_flangesIn_103 rfl ?_
                      refine wp_iload 4 dX3_flangesIn_104 rfl ?_
                      refine wp_icmp_gt (tgt := 118) dX3_flangesIn_106 (by decide) (fun c56 => ?_) (fun c56 => ?_)
                      · have hs := hs.1 c56
                        obtain ⟨y57, ey57⟩ : ∃ y : Int32, y = x6 + (nI 1) := ⟨_, rfl⟩
                        have hs := hs y57 ey57
                        refine wp_iinc (v := y57) (ls' := [(0, .ref r0), (1, .int x1), (2, .int x2), (3, .int x3), (4, .int x4), (5, .int x5), (6, .int y57), (7, .int (nI 0)), (8, .int (nI 0)), (9, .int (nI 0))]) 6 [1, 2, 3, 4, 5, 6, 0, 7, 8, 9] dX3_flangesIn_118 rfl (by rw [ey57]; rfl) rfl (by decide) ?_
                        refine wp_goto (tgt := 6) dX3_flangesIn_121 (by decide) ?_
                        refine wp_sub (ls' := [(0, .ref r0), (1, .int x1), (2, .int x2), (3, .int x3), (4, .int x4), (5, .int x5), (6, .int y57)]) [0, 1, 2, 3, 4, 5, 6] rfl ?_
                        exact ih _ _ _ hs
                      · have hs := hs.2 c56
                        refine wp_iload 5 dX3_flangesIn_109 rfl ?_
                        refine wp_iconst (v := (nI 1)) dX3_flangesIn_111 (by decide) ?_
                        refine wp_iload 6 dX3_flangesIn_112 rfl ?_
                        refine wp_ishl dX3_flangesIn_114 ?_
                        refine wp_ior dX3_flangesIn_115 ?_
                        refine wp_topi (fun y58 ey58 => ?_)
                        have hs := hs y58 ey58
                        refine wp_istore (ls' := [(0, .ref r0), (1, .int x1), (2, .int x2), (3, .int x3), (4, .int x4), (5, .int y58), (6, .int x6), (7, .int (nI 0)), (8, .int (nI 0)), (9, .int (nI 0))]) [1, 2, 3, 4, 5, 0, 6, 7, 8, 9] dX3_flangesIn_116 rfl (by decide) ?_
                        obtain ⟨y59, ey59⟩ : ∃ y : Int32, y = x6 + (nI 1) := ⟨_, rfl⟩
                        have hs := hs y59 ey59
                        refine wp_iinc (v := y59) (ls' := [(0, .ref r0), (1, .int x1), (2, .int x2), (3, .int x3), (4, .int x4), (5, .int y58), (6, .int y59), (7, .int (nI 0)), (8, .int (nI 0)), (9, .int (nI 0))]) 6 [1, 2, 3, 4, 5, 6, 0, 7, 8, 9] dX3_flangesIn_118 rfl (by rw [ey59]; rfl) rfl (by decide) ?_
                        refine wp_goto (tgt := 6) dX3_flangesIn_121 (by decide) ?_
                        refine wp_sub (ls' := [(0, .ref r0), (1, .int x1), (2, .int x2), (3, .int x3), (4, .int x4), (5, .int y58), (6, .int y59)]) [0, 1, 2, 3, 4, 5, 6] rfl ?_
                        exact ih _ _ _ hs
              · have hs := hs.2 c49
                refine wp_iconst (v := (nI 1)) dX3_flangesIn_81 (by decide) ?_
                refine wp_goto (tgt := 86) dX3_flangesIn_82 (by decide) ?_
                refine wp_istore (ls' := [(0, .ref r0), (1, .int x1), (2, .int x2), (3, .int x3), (4, .int x4), (5, .int x5), (6, .int x6), (7, .int (nI 0)), (8, .int (nI 0)), (9, .int (nI 1))]) [1, 2, 3, 4, 5, 6, 7, 8, 9, 0] dX3_flangesIn_86 rfl (by decide) ?_
                refine wp_iload 7 dX3_flangesIn_88 rfl ?_
                refine wp_if_ne (tgt := 118) dX3_flangesIn_90 (by decide) (fun c60 => ?_) (fun c60 => ?_)
                · have hs := hs.1 c60
                  obtain ⟨y61, ey61⟩ : ∃ y : Int32, y = x6 + (nI 1) := ⟨_, rfl⟩
                  have hs := hs y61 ey61
                  refine wp_iinc (v := y61) (ls' := [(0, .ref r0), (1, .int x1), (2, .int x2), (3, .int x3), (4, .int x4), (5, .int x5), (6, .int y61), (7, .int (nI 0)), (8, .int (nI 0)), (9, .int (nI 1))]) 6 [1, 2, 3, 4, 5, 6, 0, 7, 8, 9] dX3_flangesIn_118 rfl (by rw [ey61]; rfl) rfl (by decide) ?_
                  refine wp_goto (tgt := 6) dX3_flangesIn_121 (by decide) ?_
                  refine wp_sub (ls' := [(0, .ref r0), (1, .int x1), (2, .int x2), (3, .int x3), (4, .int x4), (5, .int x5), (6, .int y61)]) [0, 1, 2, 3, 4, 5, 6] rfl ?_
                  exact ih _ _ _ hs
                · have hs := hs.2 c60
                  refine wp_iload 8 dX3_flangesIn_93 rfl ?_
                  refine wp_if_ne (tgt := 118) dX3_flangesIn_95 (by decide) (fun c62 => ?_) (fun c62 => ?_)
                  · have hs := hs.1 c62
                    obtain ⟨y63, ey63⟩ : ∃ y : Int32, y = x6 + (nI 1) := ⟨_, rfl⟩
                    have hs := hs y63 ey63
                    refine wp_iinc (v := y63) (ls' := [(0, .ref r0), (1, .int x1), (2, .int x2), (3, .int x3), (4, .int x4), (5, .int x5), (6, .int y63), (7, .int (nI 0)), (8, .int (nI 0)), (9, .int (nI 1))]) 6 [1, 2, 3, 4, 5, 6, 0, 7, 8, 9] dX3_flangesIn_118 rfl (by rw [ey63]; rfl) rfl (by decide) ?_
                    refine wp_goto (tgt := 6) dX3_flangesIn_121 (by decide) ?_
                    refine wp_sub (ls' := [(0, .ref r0), (1, .int x1), (2, .int x2), (3, .int x3), (4, .int x4), (5, .int x5), (6, .int y63)]) [0, 1, 2, 3, 4, 5, 6] rfl ?_
                    exact ih _ _ _ hs
                  · have hs := hs.2 c62
                    refine wp_iload 9 dX3_flangesIn_98 rfl ?_
                    refine wp_if_ne (tgt := 118) dX3_flangesIn_100 (by decide) (fun c64 => ?_) (fun c64 => ?_)
                    · have hs := hs.1 c64
                      obtain ⟨y65, ey65⟩ : ∃ y : Int32, y = x6 + (nI 1) := ⟨_, rfl⟩
                      have hs := hs y65 ey65
                      refine wp_iinc (v := y65) (ls' := [(0, .ref r0), (1, .int x1), (2, .int x2), (3, .int x3), (4, .int x4), (5, .int x5), (6, .int y65), (7, .int (nI 0)), (8, .int (nI 0)), (9, .int (nI 1))]) 6 [1, 2, 3, 4, 5, 6, 0, 7, 8, 9] dX3_flangesIn_118 rfl (by rw [ey65]; rfl) rfl (by decide) ?_
                      refine wp_goto (tgt := 6) dX3_flangesIn_121 (by decide) ?_
                      refine wp_sub (ls' := [(0, .ref r0), (1, .int x1), (2, .int x2), (3, .int x3), (4, .int x4), (5, .int x5), (6, .int y65)]) [0, 1, 2, 3, 4, 5, 6] rfl ?_
                      exact ih _ _ _ hs
                    · have hs := hs.2 c64
                      refine wp_iload_n 3 dX3_flangesIn_103 rfl ?_
                      refine wp_iload 4 dX3_flangesIn_104 rfl ?_
                      refine wp_icmp_gt (tgt := 118) dX3_flangesIn_106 (by decide) (fun c66 => ?_) (fun c66 => ?_)
                      · have hs := hs.1 c66
                        obtain ⟨y67, ey67⟩ : ∃ y : Int32, y = x6 + (nI 1) := ⟨_, rfl⟩
                        have hs := hs y67 ey67
                        refine wp_iinc (v := y67) (ls' := [(0, .ref r0), (1, .int x1), (2, .int x2), (3, .int x3), (4, .int x4), (5, .int x5), (6, .int y67), (7, .int (nI 0)), (8, .int (nI 0)), (9, .int (nI 1))]) 6 [1, 2, 3, 4, 5, 6, 0, 7, 8, 9] dX3_flangesIn_118 rfl (by rw [ey67]; rfl) rfl (by decide) ?_
                        refine wp_goto (tgt := 6) dX3_flangesIn_121 (by decide) ?_
                        refine wp_sub (ls' := [(0, .ref r0), (1, .int x1), (2, .int x2), (3, .int x3), (4, .int x4), (5, .int x5), (6, .int y67)]) [0, 1, 2, 3, 4, 5, 6] rfl ?_
                        exact ih _ _ _ hs
                      · have hs := hs.2 c66
                        refine wp_iload 5 dX3_flangesIn_109 rfl ?_
                        refine wp_iconst (v := (nI 1)) dX3_flangesIn_111 (by decide) ?_
                        refine wp_iload 6 dX3_flangesIn_112 rfl ?_
                        refine wp_ishl dX3_flangesIn_114 ?_
                        refine wp_ior dX3_flangesIn_115 ?_
                        refine wp_topi (fun y68 ey68 => ?_)
                        have hs := hs y68 ey68
                        refine wp_istore (ls' := [(0, .ref r0), (1, .int x1), (2, .int x2), (3, .int x3), (4, .int x4), (5, .int y68), (6, .int x6), (7, .int (nI 0)), (8, .int (nI 0)), (9, .int (nI 1))]) [1, 2, 3, 4, 5, 0, 6, 7, 8, 9] dX3_flangesIn_116 rfl (by decide) ?_
                        obtain ⟨y69, ey69⟩ : ∃ y : Int32, y = x6 + (nI 1) := ⟨_, rfl⟩
                        have hs := hs y69 ey69
                        refine wp_iinc (v := y69) (ls' := [(0, .ref r0), (1, .int x1), (2, .int x2), (3, .int x3), (4, .int x4), (5, .int y68), (6, .int y69), (7, .int (nI 0)), (8, .int (nI 0)), (9, .int (nI 1))]) 6 [1, 2, 3, 4, 5, 6, 0, 7, 8, 9] dX3_flangesIn_118 rfl (by rw [ey69]; rfl) rfl (by decide) ?_
                        refine wp_goto (tgt := 6) dX3_flangesIn_121 (by decide) ?_
                        refine wp_sub (ls' := [(0, .ref r0), (1, .int x1), (2, .int x2), (3, .int x3), (4, .int x4), (5, .int y68), (6, .int y69)]) [0, 1, 2, 3, 4, 5, 6] rfl ?_
                        exact ih _ _ _ hs
            · have hs := hs.2 c48
              refine wp_iconst (v := (nI 1)) dX3_flangesIn_63 (by decide) ?_
              refine wp_goto (tgt := 68) dX3_flangesIn_64 (by decide) ?_
              refine wp_istore (ls' := [(0, .ref r0), (1, .int x1), (2, .int x2), (3, .int x3), (4, .int x4), (5, .int x5), (6, .int x6), (7, .int (nI 0)), (8, .int (nI 1))]) [1, 2, 3, 4, 5, 6, 7, 8, 0] dX3_flangesIn_68 rfl (by decide) ?_
              refine wp_aload_n 0 dX3_flangesIn_70 rfl ?_
              refine wp_get (v := .ref (r0 + 4)) dX3_flangesIn_71 (σ_isH h0) (lt_isH h0) rfl in_X3_flangesIn_X3 8 (by decide) fl_X3_flangesIn_21 rfl rfl ?_
              refine wp_iload 6 dX3_flangesIn_74 rfl ?_
              have hv := hs.1
              have hs := hs.2
              refine wp_iald (σ_isH4 h0) (lt_isH4 h0) hv dX3_flangesIn_76 ?_
              refine wp_iload_n 3 dX3_flangesIn_77 rfl ?_
              refine wp_icmp_ge (tgt := 85) dX3_flangesIn_78 (by decide) (fun c70 => ?_) (fun c70 => ?_)
              · have hs := hs.1 c70
                refine wp_iconst (v := (nI 0)) dX3_flangesIn_85 (by decide) ?_
                refine wp_istore (ls' := [(0, .ref r0), (1, .int x1), (2, .int x2), (3, .int x3), (4, .int x4), (5, .int x5), (6, .int x6), (7, .int (nI 0)), (8, .int (nI 1)), (9, .int (nI 0))]) [1, 2, 3, 4, 5, 6, 7, 8, 9, 0] dX3_flangesIn_86 rfl (by decide) ?_
                refine wp_iload 7 dX3_flangesIn_88 rfl ?_
                refine wp_if_ne (tgt := 118) dX3_flangesIn_90 (by decide) (fun c71 => ?_) (fun c71 => ?_)
                · have hs := hs.1 c71
                  obtain ⟨y72, ey72⟩ : ∃ y : Int32, y = x6 + (nI 1) := ⟨_, rfl⟩
                  have hs := hs y72 ey72
                  refine wp_iinc (v := y72) (ls' := [(0, .ref r0), (1, .int x1), (2, .int x2), (3, .int x3), (4, .int x4), (5, .int x5), (6, .int y72), (7, .int (nI 0)), (8, .int (nI 1)), (9, .int (nI 0))]) 6 [1, 2, 3, 4, 5, 6, 0, 7, 8, 9] dX3_flangesIn_118 rfl (by rw [ey72]; rfl) rfl (by decide) ?_
                  refine wp_goto (tgt := 6) dX3_flangesIn_121 (by decide) ?_
                  refine wp_sub (ls' := [(0, .ref r0), (1, .int x1), (2, .int x2), (3, .int x3), (4, .int x4), (5, .int x5), (6, .int y72)]) [0, 1, 2, 3, 4, 5, 6] rfl ?_
                  exact ih _ _ _ hs
                · have hs := hs.2 c71
                  refine wp_iload 8 dX3_flangesIn_93 rfl ?_
                  refine wp_if_ne (tgt := 118) dX3_flangesIn_95 (by decide) (fun c73 => ?_) (fun c73 => ?_)
                  · have hs := hs.1 c73
                    obtain ⟨y74, ey74⟩ : ∃ y : Int32, y = x6 + (nI 1) := ⟨_, rfl⟩
                    have hs := hs y74 ey74
                    refine wp_iinc (v := y74) (ls' := [(0, .ref r0), (1, .int x1), (2, .int x2), (3, .int x3), (4, .int x4), (5, .int x5), (6, .int y74), (7, .int (nI 0)), (8, .int (nI 1)), (9, .int (nI 0))]) 6 [1, 2, 3, 4, 5, 6, 0, 7, 8, 9] dX3_flangesIn_118 rfl (by rw [ey74]; rfl) rfl (by decide) ?_
                    refine wp_goto (tgt := 6) dX3_flangesIn_121 (by decide) ?_
                    refine wp_sub (ls' := [(0, .ref r0), (1, .int x1), (2, .int x2), (3, .int x3), (4, .int x4), (5, .int x5), (6, .int y74)]) [0, 1, 2, 3, 4, 5, 6] rfl ?_
                    exact ih _ _ _ hs
                  · have hs := hs.2 c73
                    refine wp_iload 9 dX3_flangesIn_98 rfl ?_
                    refine wp_if_ne (tgt := 118) dX3_flangesIn_100 (by decide) (fun c75 => ?_) (fun c75 => ?_)
                    · have hs := hs.1 c75
                      obtain ⟨y76, ey76⟩ : ∃ y : Int32, y = x6 + (nI 1) := ⟨_, rfl⟩
                      have hs := hs y76 ey76
                      refine wp_iinc (v := y76) (ls' := [(0, .ref r0), (1, .int x1), (2, .int x2), (3, .int x3), (4, .int x4), (5, .int x5), (6, .int y76), (7, .int (nI 0)), (8, .int (nI 1)), (9, .int (nI 0))]) 6 [1, 2, 3, 4, 5, 6, 0, 7, 8, 9] dX3_flangesIn_118 rfl (by rw [ey76]; rfl) rfl (by decide) ?_
                      refine wp_goto (tgt := 6) dX3_flangesIn_121 (by decide) ?_
                      refine wp_sub (ls' := [(0, .ref r0), (1, .int x1), (2, .int x2), (3, .int x3), (4, .int x4), (5, .int x5), (6, .int y76)]) [0, 1, 2, 3, 4, 5, 6] rfl ?_
                      exact ih _ _ _ hs
                    · have hs := hs.2 c75
                      refine wp_iload_n 3 dX3_flangesIn_103 rfl ?_
                      refine wp_iload 4 dX3_flangesIn_104 rfl ?_
                      refine wp_icmp_gt (tgt := 118) dX3_flangesIn_106 (by decide) (fun c77 => ?_) (fun c77 => ?_)
                      · have hs := hs.1 c77
                        obtain ⟨y78, ey78⟩ : ∃ y : Int32, y = x6 + (nI 1) := ⟨_, rfl⟩
                        have hs := hs y78 ey78
                        refine wp_iinc (v := y78) (ls' := [(0, .ref r0), (1, .int x1), (2, .int x2), (3, .int x3), (4, .int x4), (5, .int x5), (6, .int y78), (7, .int (nI 0)), (8, .int (nI 1)), (9, .int (nI 0))]) 6 [1, 2, 3, 4, 5, 6, 0, 7, 8, 9] dX3_flangesIn_118 rfl (by rw [ey78]; rfl) rfl (by decide) ?_
                        refine wp_goto (tgt := 6) dX3_flangesIn_121 (by decide) ?_
                        refine wp_sub (ls' := [(0, .ref r0), (1, .int x1), (2, .int x2), (3, .int x3), (4, .int x4), (5, .int x5), (6, .int y78)]) [0, 1, 2, 3, 4, 5, 6] rfl ?_
                        exact ih _ _ _ hs
                      · have hs := hs.2 c77
                        refine wp_iload 5 dX3_flangesIn_109 rfl ?_
                        refine wp_iconst (v := (nI 1)) dX3_flangesIn_111 (by decide) ?_
                        refine wp_iload 6 dX3_flangesIn_112 rfl ?_
                        refine wp_ishl dX3_flangesIn_114 ?_
                        refine wp_ior dX3_flangesIn_115 ?_
                        refine wp_topi (fun y79 ey79 => ?_)
                        have hs := hs y79 ey79
                        refine wp_istore (ls' := [(0, .ref r0), (1, .int x1), (2, .int x2), (3, .int x3), (4, .int x4), (5, .int y79), (6, .int x6), (7, .int (nI 0)), (8, .int (nI 1)), (9, .int (nI 0))]) [1, 2, 3, 4, 5, 0, 6, 7, 8, 9] dX3_flangesIn_116 rfl (by decide) ?_
                        obtain ⟨y80, ey80⟩ : ∃ y : Int32, y = x6 + (nI 1) := ⟨_, rfl⟩
                        have hs := hs y80 ey80
                        refine wp_iinc (v := y80) (ls' := [(0, .ref r0), (1, .int x1), (2, .int x2), (3, .int x3), (4, .int x4), (5, .int y79), (6, .int y80), (7, .int (nI 0)), (8, .int (nI 1)), (9, .int (nI 0))]) 6 [1, 2, 3, 4, 5, 6, 0, 7, 8, 9] dX3_flangesIn_118 rfl (by rw [ey80]; rfl) rfl (by decide) ?_
                        refine wp_goto (tgt := 6) dX3_flangesIn_121 (by decide) ?_
                        refine wp_sub (ls' := [(0, .ref r0), (1, .int x1), (2, .int x2), (3, .int x3), (4, .int x4), (5, .int y79), (6, .int y80)]) [0, 1, 2, 3, 4, 5, 6] rfl ?_
                        exact ih _ _ _ hs
              · have hs := hs.2 c70
                refine wp_iconst (v := (nI 1)) dX3_flangesIn_81 (by decide) ?_
                refine wp_goto (tgt := 86) dX3_flangesIn_82 (by decide) ?_
                refine wp_istore (ls' := [(0, .ref r0), (1, .int x1), (2, .int x2), (3, .int x3), (4, .int x4), (5, .int x5), (6, .int x6), (7, .int (nI 0)), (8, .int (nI 1)), (9, .int (nI 1))]) [1, 2, 3, 4, 5, 6, 7, 8, 9, 0] dX3_flangesIn_86 rfl (by decide) ?_
                refine wp_iload 7 dX3_flangesIn_88 rfl ?_
                refine wp_if_ne (tgt := 118) dX3_flangesIn_90 (by decide) (fun c81 => ?_) (fun c81 => ?_)
                · have hs := hs.1 c81
                  obtain ⟨y82, ey82⟩ : ∃ y : Int32, y = x6 + (nI 1) := ⟨_, rfl⟩
                  have hs := hs y82 ey82
                  refine wp_iinc (v := y82) (ls' := [(0, .ref r0), (1, .int x1), (2, .int x2), (3, .int x3), (4, .int x4), (5, .int x5), (6, .int y82), (7, .int (nI 0)), (8, .int (nI 1)), (9, .int (nI 1))]) 6 [1, 2, 3, 4, 5, 6, 0, 7, 8, 9] dX3_flangesIn_118 rfl (by rw [ey82]; rfl) rfl (by decide) ?_
                  refine wp_goto (tgt := 6) dX3_flangesIn_121 (by decide) ?_
                  refine wp_sub (ls' := [(0, .ref r0), (1, .int x1), (2, .int x2), (3, .int x3), (4, .int x4), (5, .int x5), (6, .int y82)]) [0, 1, 2, 3, 4, 5, 6] rfl ?_
                  exact ih _ _ _ hs
                · have hs := hs.2 c81
                  refine wp_iload 8 dX3_flangesIn_93 rfl ?_
                  refine wp_if_ne (tgt := 118) dX3_flangesIn_95 (by decide) (fun c83 => ?_) (fun c83 => ?_)
                  · have hs := hs.1 c83
                    obtain ⟨y84, ey84⟩ : ∃ y : Int32, y = x6 + (nI 1) := ⟨_, rfl⟩
                    have hs := hs y84 ey84
                    refine wp_iinc (v := y84) (ls' := [(0, .ref r0), (1, .int x1), (2, .int x2), (3, .int x3), (4, .int x4), (5, .int x5), (6, .int y84), (7, .int (nI 0)), (8, .int (nI 1)), (9, .int (nI 1))]) 6 [1, 2, 3, 4, 5, 6, 0, 7, 8, 9] dX3_flangesIn_118 rfl (by rw [ey84]; rfl) rfl (by decide) ?_
                    refine wp_goto (tgt := 6) dX3_flangesIn_121 (by decide) ?_
                    refine wp_sub (ls' := [(0, .ref r0), (1, .int x1), (2, .int x2), (3, .int x3), (4, .int x4), (5, .int x5), (6, .int y84)]) [0, 1, 2, 3, 4, 5, 6] rfl ?_
                    exact ih _ _ _ hs
                  · have hs := hs.2 c83
                    refine wp_iload 9 dX3_flangesIn_98 rfl ?_
                    refine wp_if_ne (tgt := 118) dX3_flangesIn_100 (by decide) (fun c85 => ?_) (fun c85 => ?_)
                    · have hs := hs.1 c85
                      obtain ⟨y86, ey86⟩ : ∃ y : Int32, y = x6 + (nI 1) := ⟨_, rfl⟩
                      have hs := hs y86 ey86
                      refine wp_iinc (v := y86) (ls' := [(0, .ref r0), (1, .int x1), (2, .int x2), (3, .int x3), (4, .int x4), (5, .int x5), (6, .int y86), (7, .int (nI 0)), (8, .int (nI 1)), (9, .int (nI 1))]) 6 [1, 2, 3, 4, 5, 6, 0, 7, 8, 9] dX3_flangesIn_118 rfl (by rw [ey86]; rfl) rfl (by decide) ?_
                      refine wp_goto (tgt := 6) dX3_flangesIn_121 (by decide) ?_
                      refine wp_sub (ls' := [(0, .ref r0), (1, .int x1), (2, .int x2), (3, .int x3), (4, .int x4), (5, .int x5), (6, .int y86)]) [0, 1, 2, 3, 4, 5, 6] rfl ?_
                      exact ih _ _ _ hs
                    · have hs := hs.2 c85
                      refine wp_iload_n 3 dX3_flangesIn_103 rfl ?_
                      refine wp_iload 4 dX3_flangesIn_104 rfl ?_
                      refine wp_icmp_gt (tgt := 118) dX3_flangesIn_106 (by decide) (fun c87 => ?_) (fun c87 => ?_)
                      · have hs := hs.1 c87
                        obtain ⟨y88, ey88⟩ : ∃ y : Int32, y = x6 + (nI 1) := ⟨_, rfl⟩
                        have hs := hs y88 ey88
                        refine wp_iinc (v := y88) (ls' := [(0, .ref r0), (1, .int x1), (2, .int x2), (3, .int x3), (4, .int x4), (5, .int x5), (6, .int y88), (7, .int (nI 0)), (8, .int (nI 1)), (9, .int (nI 1))]) 6 [1, 2, 3, 4, 5, 6, 0, 7, 8, 9] dX3_flangesIn_118 rfl (by rw [ey88]; rfl) rfl (by decide) ?_
                        refine wp_goto (tgt := 6) dX3_flangesIn_121 (by decide) ?_
                        refine wp_sub (ls' := [(0, .ref r0), (1, .int x1), (2, .int x2), (3, .int x3), (4, .int x4), (5, .int x5), (6, .int y88)]) [0, 1, 2, 3, 4, 5, 6] rfl ?_
                        exact ih _ _ _ hs
                      · have hs := hs.2 c87
                        refine wp_iload 5 dX3_flangesIn_109 rfl ?_
                        refine wp_iconst (v := (nI 1)) dX3_flangesIn_111 (by decide) ?_
                        refine wp_iload 6 dX3_flangesIn_112 rfl ?_
                        refine wp_ishl dX3_flangesIn_114 ?_
                        refine wp_ior dX3_flangesIn_115 ?_
                        refine wp_topi (fun y89 ey89 => ?_)
                        have hs := hs y89 ey89
                        refine wp_istore (ls' := [(0, .ref r0), (1, .int x1), (2, .int x2), (3, .int x3), (4, .int x4), (5, .int y89), (6, .int x6), (7, .int (nI 0)), (8, .int (nI 1)), (9, .int (nI 1))]) [1, 2, 3, 4, 5, 0, 6, 7, 8, 9] dX3_flangesIn_116 rfl (by decide) ?_
                        obtain ⟨y90, ey90⟩ : ∃ y : Int32, y = x6 + (nI 1) := ⟨_, rfl⟩
                        have hs := hs y90 ey90
                        refine wp_iinc (v := y90) (ls' := [(0, .ref r0), (1, .int x1), (2, .int x2), (3, .int x3), (4, .int x4), (5, .int y89), (6, .int y90), (7, .int (nI 0)), (8, .int (nI 1)), (9, .int (nI 1))]) 6 [1, 2, 3, 4, 5, 6, 0, 7, 8, 9] dX3_flangesIn_118 rfl (by rw [ey90]; rfl) rfl (by decide) ?_
                        refine wp_goto (tgt := 6) dX3_flangesIn_121 (by decide) ?_
                        refine wp_sub (ls' := [(0, .ref r0), (1, .int x1), (2, .int x2), (3, .int x3), (4, .int x4), (5, .int y89), (6, .int y90)]) [0, 1, 2, 3, 4, 5, 6] rfl ?_
                        exact ih _ _ _ hs
          · have hs := hs.2 c47
            refine wp_iconst (v := (nI 1)) dX3_flangesIn_44 (by decide) ?_
            refine wp_goto (tgt := 49) dX3_flangesIn_45 (by decide) ?_
            refine wp_istore (ls' := [(0, .ref r0), (1, .int x1), (2, .int x2), (3, .int x3), (4, .int x4), (5, .int x5), (6, .int x6), (7, .int (nI 1))]) [1, 2, 3, 4, 5, 6, 7, 0] dX3_flangesIn_49 rfl (by decide) ?_
            refine wp_aload_n 0 dX3_flangesIn_51 rfl ?_
            refine wp_get (v := .ref (r0 + 3)) dX3_flangesIn_52 (σ_isH h0) (lt_isH h0) rfl in_X3_flangesIn_X3 7 (by decide) fl_X3_flangesIn_18 rfl rfl ?_
            refine wp_iload 6 dX3_flangesIn_55 rfl ?_
            have hv := hs.1
            have hs := hs.2
            refine wp_iald (σ_isH3 h0) (lt_isH3 h0) hv dX3_flangesIn_57 ?_
            refine wp_iload 4 dX3_flangesIn_58 rfl ?_
            refine wp_icmp_le (tgt := 67) dX3_flangesIn_60 (by decide) (fun c91 => ?_) (fun c91 => ?_)
            · have hs := hs.1 c91
              refine wp_iconst (v := (nI 0)) dX3_flangesIn_67 (by decide) ?_
              refine wp_istore (ls' := [(0, .ref r0), (1, .int x1), (2, .int x2), (3, .int x3), (4, .int x4), (5, .int x5), (6, .int x6), (7, .int (nI 1)), (8, .int (nI 0))]) [1, 2, 3, 4, 5, 6, 7, 8, 0] dX3_flangesIn_68 rfl (by decide) ?_
              refine wp_aload_n 0 dX3_flangesIn_70 rfl ?_
              refine wp_get (v := .ref (r0 + 4)) dX3_flangesIn_71 (σ_isH h0) (lt_isH h0) rfl in_X3_flangesIn_X3 8 (by decide) fl_X3_flangesIn_21 rfl rfl ?_
              refine wp_iload 6 dX3_flangesIn_74 rfl ?_
              have hv := hs.1
              have hs := hs.2
              refine wp_iald (σ_isH4 h0) (lt_isH4 h0) hv dX3_flangesIn_76 ?_
              refine wp_iload_n 3 dX3_flangesIn_77 rfl ?_
              refine wp_icmp_ge (tgt := 85) dX3_flangesIn_78 (by decide) (fun c92 => ?_) (fun c92 => ?_)
              · have hs := hs.1 c92
                refine wp_iconst (v := (nI 0)) dX3_flangesIn_85 (by decide) ?_
                refine wp_istore (ls' := [(0, .ref r0), (1, .int x1), (2, .int x2), (3, .int x3), (4, .int x4), (5, .int x5), (6, .int x6), (7, .int (nI 1)), (8, .int (nI 0)), (9, .int (nI 0))]) [1, 2, 3, 4, 5, 6, 7, 8, 9, 0] dX3_flangesIn_86 rfl (by decide) ?_
                refine wp_iload 7 dX3_flangesIn_88 rfl ?_
                refine wp_if_ne (tgt := 118) dX3_flangesIn_90 (by decide) (fun c93 => ?_) (fun c93 => ?_)
                · have hs := hs.1 c93
                  obtain ⟨y94, ey94⟩ : ∃ y : Int32, y = x6 + (nI 1) := ⟨_, rfl⟩
                  have hs := hs y94 ey94
                  refine wp_iinc (v := y94) (ls' := [(0, .ref r0), (1, .int x1), (2, .int x2), (3, .int x3), (4, .int x4), (5, .int x5), (6, .int y94), (7, .int (nI 1)), (8, .int (nI 0)), (9, .int (nI 0))]) 6 [1, 2, 3, 4, 5, 6, 0, 7, 8, 9] dX3_flangesIn_118 rfl (by rw [ey94]; rfl) rfl (by decide) ?_
                  refine wp_goto (tgt := 6) dX3_flangesIn_121 (by decide) ?_
                  refine wp_sub (ls' := [(0, .ref r0), (1, .int x1), (2, .int x2), (3, .int x3), (4, .int x4), (5, .int x5), (6, .int y94)]) [0, 1, 2, 3, 4, 5, 6] rfl ?_
                  exact ih _ _ _ hs
                · have hs := hs.2 c93
                  refine wp_iload 8 dX3_flangesIn_93 rfl ?_
                  refine wp_if_ne (tgt := 118) dX3_flangesIn_95 (by decide) (fun c95 => ?_) (fun c95 => ?_)
                  · have hs := hs.1 c95
                    obtain ⟨y96, ey96⟩ : ∃ y : Int32, y = x6 + (nI 1) := ⟨_, rfl⟩
                    have hs := hs y96 ey96
                    refine wp_iinc (v := y96) (ls' := [(0, .ref r0), (1, .int x1), (2, .int x2), (3, .int x3), (4, .int x4), (5, .int x5), (6, .int y96), (7, .int (nI 1)), (8, .int (nI 0)), (9, .int (nI 0))]) 6 [1, 2, 3, 4, 5, 6, 0, 7, 8, 9] dX3_flangesIn_118 rfl (by rw [ey96]; rfl) rfl (by decide) ?_
                    refine wp_goto (tgt := 6) dX3_flangesIn_121 (by decide) ?_
                    refine wp_sub (ls' := [(0, .ref r0), (1, .int x1), (2, .int x2), (3, .int x3), (4, .int x4), (5, .int x5), (6, .int y96)]) [0, 1, 2, 3, 4, 5, 6] rfl ?_
                    exact ih _ _ _ hs
                  · have hs := hs.2 c95
                    refine wp_iload 9 dX3_flangesIn_98 rfl ?_
                    refine wp_if_ne (tgt := 118) dX3_flangesIn_100 (by decide) (fun c97 => ?_) (fun c97 => ?_)
                    · have hs := hs.1 c97
                      obtain ⟨y98, ey98⟩ : ∃ y : Int32, y = x6 + (nI 1) := ⟨_, rfl⟩
                      have hs := hs y98 ey98
                      refine wp_iinc (v := y98) (ls' := [(0, .ref r0), (1, .int x1), (2, .int x2), (3, .int x3), (4, .int x4), (5, .int x5), (6, .int y98), (7, .int (nI 1)), (8, .int (nI 0)), (9, .int (nI 0))]) 6 [1, 2, 3, 4, 5, 6, 0, 7, 8, 9] dX3_flangesIn_118 rfl (by rw [ey98]; rfl) rfl (by decide) ?_
                      refine wp_goto (tgt := 6) dX3_flangesIn_121 (by decide) ?_
                      refine wp_sub (ls' := [(0, .ref r0), (1, .int x1), (2, .int x2), (3, .int x3), (4, .int x4), (5, .int x5), (6, .int y98)]) [0, 1, 2, 3, 4, 5, 6] rfl ?_
                      exact ih _ _ _ hs
                    · have hs := hs.2 c97
                      refine wp_iload_n 3 dX3_flangesIn_103 rfl ?_
                      refine wp_iload 4 dX3_flangesIn_104 rfl ?_
                      refine wp_icmp_gt (tgt := 118) dX3_flangesIn_106 (by decide) (fun c99 => ?_) (fun c99 => ?_)
                      · have hs := hs.1 c99
                        obtain ⟨y100, ey100⟩ : ∃ y : Int32, y = x6 + (nI 1) := ⟨_, rfl⟩
                        have hs := hs y100 ey100
                        refine wp_iinc (v := y100) (ls' := [(0, .ref r0), (1, .int x1), (2, .int x2), (3, .int x3), (4, .int x4), (5, .int x5), (6, .int y100), (7, .int (nI 1)), (8, .int (nI 0)), (9, .int (nI 0))]) 6 [1, 2, 3, 4, 5, 6, 0, 7, 8, 9] dX3_flangesIn_118 rfl (by rw [ey100]; rfl) rfl (by decide) ?_
                        refine wp_goto (tgt := 6) dX3_flangesIn_121 (by decide) ?_
                        refine wp_sub (ls' := [(0, .ref r0), (1, .int x1), (2, .int x2), (3, .int x3), (4, .int x4), (5, .int x5), (6, .int y100)]) [0, 1, 2, 3, 4, 5, 6] rfl ?_
                        exact ih _ _ _ hs
                      · have hs := hs.2 c99
                        refine wp_iload 5 dX3_flangesIn_109 rfl ?_
                        refine wp_iconst (v := (nI 1)) dX3_flangesIn_111 (by decide) ?_
                        refine wp_iload 6 dX3_flangesIn_112 rfl ?_
                        refine wp_ishl dX3_flangesIn_114 ?_
                        refine wp_ior dX3_flangesIn_115 ?_
                        refine wp_topi (fun y101 ey101 => ?_)
                        have hs := hs y101 ey101
                        refine wp_istore (ls' := [(0, .ref r0), (1, .int x1), (2, .int x2), (3, .int x3), (4, .int x4), (5, .int y101), (6, .int x6), (7, .int (nI 1)), (8, .int (nI 0)), (9, .int (nI 0))]) [1, 2, 3, 4, 5, 0, 6, 7, 8, 9] dX3_flangesIn_116 rfl (by decide) ?_
                        obtain ⟨y102, ey102⟩ : ∃ y : Int32, y = x6 + (nI 1) := ⟨_, rfl⟩
                        have hs := hs y102 ey102
                        refine wp_iinc (v := y102) (ls' := [(0, .ref r0), (1, .int x1), (2, .int x2), (3, .int x3), (4, .int x4), (5, .int y101), (6, .int y102), (7, .int (nI 1)), (8, .int (nI 0)), (9, .int (nI 0))]) 6 [1, 2, 3, 4, 5, 6, 0, 7, 8, 9] dX3_flangesIn_118 rfl (by rw [ey102]; rfl) rfl (by decide) ?_
                        refine wp_goto (tgt := 6) dX3_flangesIn_121 (by decide) ?_
                        refine wp_sub (ls' := [(0, .ref r0), (1, .int x1), (2, .int x2), (3, .int x3), (4, .int x4), (5, .int y101), (6, .int y102)]) [0, 1, 2, 3, 4, 5, 6] rfl ?_
                        exact ih _ _ _ hs
              · have hs := hs.2 c92
                refine wp_iconst (v := (nI 1)) dX3_flangesIn_81 (by decide) ?_
                refine wp_goto (tgt := 86) dX3_flangesIn_82 (by decide) ?_
                refine wp_istore (ls' := [(0, .ref r0), (1, .int x1), (2, .int x2), (3, .int x3), (4, .int x4), (5, .int x5), (6, .int x6), (7, .int (nI 1)), (8, .int (nI 0)), (9, .int (nI 1))]) [1, 2, 3, 4, 5, 6, 7, 8, 9, 0] dX3_flangesIn_86 rfl (by decide) ?_
                refine wp_iload 7 dX3_flangesIn_88 rfl ?_
                refine wp_if_ne (tgt := 118) dX3_flangesIn_90 (by decide) (fun c103 => ?_) (fun c103 => ?_)
                · have hs := hs.1 c103
                  obtain ⟨y104, ey104⟩ : ∃ y : Int32, y = x6 + (nI 1) := ⟨_, rfl⟩
                  have hs := hs y104 ey104
                  refine wp_iinc (v := y104) (ls' := [(0, .ref r0), (1, .int x1), (2, .int x2), (3, .int x3), (4, .int x4), (5, .int x5), (6, .int y104), (7, .int (nI 1)), (8, .int (nI 0)), (9, .int (nI 1))]) 6 [1, 2, 3, 4, 5, 6, 0, 7, 8, 9] dX3_flangesIn_118 rfl (by rw [ey104]; rfl) rfl (by decide) ?_
                  refine wp_goto (tgt := 6) dX3_flangesIn_121 (by decide) ?_
                  refine wp_sub (ls' := [(0, .ref r0), (1, .int x1), (2, .int x2), (3, .int x3), (4, .int x4), (5, .int x5), (6, .int y104)]) [0, 1, 2, 3, 4, 5, 6] rfl ?_
                  exact ih _ _ _ hs
                · have hs := hs.2 c103
                  refine wp_iload 8 dX3_flangesIn_93 rfl ?_
                  refine wp_if_ne (tgt := 118) dX3_flangesIn_95 (by decide) (fun c105 => ?_) (fun c105 => ?_)
                  · have hs := hs.1 c105
                    obtain ⟨y106, ey106⟩ : ∃ y : Int32, y = x6 + (nI 1) := ⟨_, rfl⟩
                    have hs := hs y106 ey106
                    refine wp_iinc (v := y106) (ls' := [(0, .ref r0), (1, .int x1), (2, .int x2), (3, .int x3), (4, .int x4), (5, .int x5), (6, .int y106), (7, .int (nI 1)), (8, .int (nI 0)), (9, .int (nI 1))]) 6 [1, 2, 3, 4, 5, 6, 0, 7, 8, 9] dX3_flangesIn_118 rfl (by rw [ey106]; rfl) rfl (by decide) ?_
                    refine wp_goto (tgt := 6) dX3_flangesIn_121 (by decide) ?_
                    refine wp_sub (ls' := [(0, .ref r0), (1, .int x1), (2, .int x2), (3, .int x3), (4, .int x4), (5, .int x5), (6, .int y106)]) [0, 1, 2, 3, 4, 5, 6] rfl ?_
                    exact ih _ _ _ hs
                  · have hs := hs.2 c105
                    refine wp_iload 9 dX3_flangesIn_98 rfl ?_
                    refine wp_if_ne (tgt := 118) dX3_flangesIn_100 (by decide) (fun c107 => ?_) (fun c107 => ?_)
                    · have hs := hs.1 c107
                      obtain ⟨y108, ey108⟩ : ∃ y : Int32, y = x6 + (nI 1) := ⟨_, rfl⟩
                      have hs := hs y108 ey108
                      refine wp_iinc (v := y108) (ls' := [(0, .ref r0), (1, .int x1), (2, .int x2), (3, .int x3), (4, .int x4), (5, .int x5), (6, .int y108), (7, .int (nI 1)), (8, .int (nI 0)), (9, .int (nI 1))]) 6 [1, 2, 3, 4, 5, 6, 0, 7, 8, 9] dX3_flangesIn_118 rfl (by rw [ey108]; rfl) rfl (by decide) ?_
                      refine wp_goto (tgt := 6) dX3_flangesIn_121 (by decide) ?_
                      refine wp_sub (ls' := [(0, .ref r0), (1, .int x1), (2, .int x2), (3, .int x3), (4, .int x4), (5, .int x5), (6, .int y108)]) [0, 1, 2, 3, 4, 5, 6] rfl ?_
                      exact ih _ _ _ hs
                    · have hs := hs.2 c107
                      refine wp_iload_n 3 dX3_flangesIn_103 rfl ?_
                      refine wp_iload 4 dX3_flangesIn_104 rfl ?_
                      refine wp_icmp_gt (tgt := 118) dX3_flangesIn_106 (by decide) (fun c109 => ?_) (fun c109 => ?_)
                      · have hs := hs.1 c109
                        obtain ⟨y110, ey110⟩ : ∃ y : Int32, y = x6 + (nI 1) := ⟨_, rfl⟩
                        have hs := hs y110 ey110
                        refine wp_iinc (v := y110) (ls' := [(0, .ref r0), (1, .int x1), (2, .int x2), (3, .int x3), (4, .int x4), (5, .int x5), (6, .int y110), (7, .int (nI 1)), (8, .int (nI 0)), (9, .int (nI 1))]) 6 [1, 2, 3, 4, 5, 6, 0, 7, 8, 9] dX3_flangesIn_118 rfl (by rw [ey110]; rfl) rfl (by decide) ?_
                        refine wp_goto (tgt := 6) dX3_flangesIn_121 (by decide) ?_
                        refine wp_sub (ls' := [(0, .ref r0), (1, .int x1), (2, .int x2), (3, .int x3), (4, .int x4), (5, .int x5), (6, .int y110)]) [0, 1, 2, 3, 4, 5, 6] rfl ?_
                        exact ih _ _ _ hs
                      · have hs := hs.2 c109
                        refine wp_iload 5 dX3_flangesIn_109 rfl ?_
                        refine wp_iconst (v := (nI 1)) dX3_flangesIn_111 (by decide) ?_
                        refine wp_iload 6 dX3_flangesIn_112 rfl ?_
                        refine wp_ishl dX3_flangesIn_114 ?_
                        refine wp_ior dX3_flangesIn_115 ?_
                        refine wp_topi (fun y111 ey111 => ?_)
                        have hs := hs y111 ey111
                        refine wp_istore (ls' := [(0, .ref r0), (1, .int x1), (2, .int x2), (3, .int x3), (4, .int x4), (5, .int y111), (6, .int x6), (7, .int (nI 1)), (8, .int (nI 0)), (9, .int (nI 1))]) [1, 2, 3, 4, 5, 0, 6, 7, 8, 9] dX3_flangesIn_116 rfl (by decide) ?_
                        obtain ⟨y112, ey112⟩ : ∃ y : Int32, y = x6 + (nI 1) := ⟨_, rfl⟩
                        have hs := hs y112 ey112
                        refine wp_iinc (v := y112) (ls' := [(0, .ref r0), (1, .int x1), (2, .int x2), (3, .int x3), (4, .int x4), (5, .int y111), (6, .int y112), (7, .int (nI 1)), (8, .int (nI 0)), (9, .int (nI 1))]) 6 [1, 2, 3, 4, 5, 6, 0, 7, 8, 9] dX3_flangesIn_118 rfl (by rw [ey112]; rfl) rfl (by decide) ?_
                        refine wp_goto (tgt := 6) dX3_flangesIn_121 (by decide) ?_
                        refine wp_sub (ls' := [(0, .ref r0), (1, .int x1), (2, .int x2), (3, .int x3), (4, .int x4), (5, .int y111), (6, .int y112)]) [0, 1, 2, 3, 4, 5, 6] rfl ?_
                        exact ih _ _ _ hs
            · have hs := hs.2 c91
              refine wp_iconst (v := (nI 1)) dX3_flangesIn_63 (by decide) ?_
              refine wp_goto (tgt := 68) dX3_flangesIn_64 (by decide) ?_
              refine wp_istore (ls' := [(0, .ref r0), (1, .int x1), (2, .int x2), (3, .int x3), (4, .int x4), (5, .int x5), (6, .int x6), (7, .int (nI 1)), (8, .int (nI 1))]) [1, 2, 3, 4, 5, 6, 7, 8, 0] dX3_flangesIn_68 rfl (by decide) ?_
              refine wp_aload_n 0 dX3_flangesIn_70 rfl ?_
              refine wp_get (v := .ref (r0 + 4)) dX3_flangesIn_71 (σ_isH h0) (lt_isH h0) rfl in_X3_flangesIn_X3 8 (by decide) fl_X3_flangesIn_21 rfl rfl ?_
              refine wp_iload 6 dX3_flangesIn_74 rfl ?_
              have hv := hs.1
              have hs := hs.2
              refine wp_iald (σ_isH4 h0) (lt_isH4 h0) hv dX3_flangesIn_76 ?_
              refine wp_iload_n 3 dX3_flangesIn_77 rfl ?_
              refine wp_icmp_ge (tgt := 85) dX3_flangesIn_78 (by decide) (fun c113 => ?_) (fun c113 => ?_)
              · have hs := hs.1 c113
                refine wp_iconst (v := (nI 0)) dX3_flangesIn_85 (by decide) ?_
                refine wp_istore (ls' := [(0, .ref r0), (1, .int x1), (2, .int x2), (3, .int x3), (4, .int x4), (5, .int x5), (6, .int x6), (7, .int (nI 1)), (8, .int (nI 1)), (9, .int (nI 0))]) [1, 2, 3, 4, 5, 6, 7, 8, 9, 0] dX3_flangesIn_86 rfl (by decide) ?_
                refine wp_iload 7 dX3_flangesIn_88 rfl ?_
                refine wp_if_ne (tgt := 118) dX3_flangesIn_90 (by decide) (fun c114 => ?_) (fun c114 => ?_)
                · have hs := hs.1 c114
                  obtain ⟨y115, ey115⟩ : ∃ y : Int32, y = x6 + (nI 1) := ⟨_, rfl⟩
                  have hs := hs y115 ey115
                  refine wp_iinc (v := y115) (ls' := [(0, .ref r0), (1, .int x1), (2, .int x2), (3, .int x3), (4, .int x4), (5, .int x5), (6, .int y115), (7, .int (nI 1)), (8, .int (nI 1)), (9, .int (nI 0))]) 6 [1, 2, 3, 4, 5, 6, 0, 7, 8, 9] dX3_flangesIn_118 rfl (by rw [ey115]; rfl) rfl (by decide) ?_
                  refine wp_goto (tgt := 6) dX3_flangesIn_121 (by decide) ?_
                  refine wp_sub (ls' := [(0, .ref r0), (1, .int x1), (2, .int x2), (3, .int x3), (4, .int x4), (5, .int x5), (6, .int y115)]) [0, 1, 2, 3, 4, 5, 6] rfl ?_
                  exact ih _ _ _ hs
                · have hs := hs.2 c114
                  refine wp_iload 8 dX3_flangesIn_93 rfl ?_
                  refine wp_if_ne (tgt := 118) dX3_flangesIn_95 (by decide) (fun c116 => ?_) (fun c116 => ?_)
                  · have hs := hs.1 c116
                    obtain ⟨y117, ey117⟩ : ∃ y : Int32, y = x6 + (nI 1) := ⟨_, rfl⟩
                    have hs := hs y117 ey117
                    refine wp_iinc (v := y117) (ls' := [(0, .ref r0), (1, .int x1), (2, .int x2), (3, .int x3), (4, .int x4), (5, .int x5), (6, .int y117), (7, .int (nI 1)), (8, .int (nI 1)), (9, .int (nI 0))]) 6 [1, 2, 3, 4, 5, 6, 0, 7, 8, 9] dX3_flangesIn_118 rfl (by rw [ey117]; rfl) rfl (by decide) ?_
                    refine wp_goto (tgt := 6) dX3_flangesIn_121 (by decide) ?_
                    refine wp_sub (ls' := [(0, .ref r0), (1, .int x1), (2, .int x2), (3, .int x3), (4, .int x4), (5, .int x5), (6, .int y117)]) [0, 1, 2, 3, 4, 5, 6] rfl ?_
                    exact ih _ _ _ hs
                  · have hs := hs.2 c116
                    refine wp_iload 9 dX3_flangesIn_98 rfl ?_
                    refine wp_if_ne (tgt := 118) dX3_flangesIn_100 (by decide) (fun c118 => ?_) (fun c118 => ?_)
                    · have hs := hs.1 c118
                      obtain ⟨y119, ey119⟩ : ∃ y : Int32, y = x6 + (nI 1) := ⟨_, rfl⟩
                      have hs := hs y119 ey119
                      refine wp_iinc (v := y119) (ls' := [(0, .ref r0), (1, .int x1), (2, .int x2), (3, .int x3), (4, .int x4), (5, .int x5), (6, .int y119), (7, .int (nI 1)), (8, .int (nI 1)), (9, .int (nI 0))]) 6 [1, 2, 3, 4, 5, 6, 0, 7, 8, 9] dX3_flangesIn_118 rfl (by rw [ey119]; rfl) rfl (by decide) ?_
                      refine wp_goto (tgt := 6) dX3_flangesIn_121 (by decide) ?_
                      refine wp_sub (ls' := [(0, .ref r0), (1, .int x1), (2, .int x2), (3, .int x3), (4, .int x4), (5, .int x5), (6, .int y119)]) [0, 1, 2, 3, 4, 5, 6] rfl ?_
                      exact ih _ _ _ hs
                    · have hs := hs.2 c118
                      refine wp_iload_n 3 dX3_flangesIn_103 rfl ?_
                      refine wp_iload 4 dX3_flangesIn_104 rfl ?_
                      refine wp_icmp_gt (tgt := 118) dX3_flangesIn_106 (by decide) (fun c120 => ?_) (fun c120 => ?_)
                      · have hs := hs.1 c120
                        obtain ⟨y121, ey121⟩ : ∃ y : Int32, y = x6 + (nI 1) := ⟨_, rfl⟩
                        have hs := hs y121 ey121
                        refine wp_iinc (v := y121) (ls' := [(0, .ref r0), (1, .int x1), (2, .int x2), (3, .int x3), (4, .int x4), (5, .int x5), (6, .int y121), (7, .int (nI 1)), (8, .int (nI 1)), (9, .int (nI 0))]) 6 [1, 2, 3, 4, 5, 6, 0, 7, 8, 9] dX3_flangesIn_118 rfl (by rw [ey121]; rfl) rfl (by decide) ?_
                        refine wp_goto (tgt := 6) dX3_flangesIn_121 (by decide) ?_
                        refine wp_sub (ls' := [(0, .ref r0), (1, .int x1), (2, .int x2), (3, .int x3), (4, .int x4), (5, .int x5), (6, .int y121)]) [0, 1, 2, 3, 4, 5, 6] rfl ?_
                        exact ih _ _ _ hs
                      · have hs := hs.2 c120
                        refine wp_iload 5 dX3_flangesIn_109 rfl ?_
                        refine wp_iconst (v := (nI 1)) dX3_flangesIn_111 (by decide) ?_
                        refine wp_iload 6 dX3_flangesIn_112 rfl ?_
                        refine wp_ishl dX3_flangesIn_114 ?_
                        refine wp_ior dX3_flangesIn_115 ?_
                        refine wp_topi (fun y122 ey122 => ?_)
                        have hs := hs y122 ey122
                        refine wp_istore (ls' := [(0, .ref r0), (1, .int x1), (2, .int x2), (3, .int x3), (4, .int x4), (5, .int y122), (6, .int x6), (7, .int (nI 1)), (8, .int (nI 1)), (9, .int (nI 0))]) [1, 2, 3, 4, 5, 0, 6, 7, 8, 9] dX3_flangesIn_116 rfl (by decide) ?_
                        obtain ⟨y123, ey123⟩ : ∃ y : Int32, y = x6 + (nI 1) := ⟨_, rfl⟩
                        have hs := hs y123 ey123
                        refine wp_iinc (v := y123) (ls' := [(0, .ref r0), (1, .int x1), (2, .int x2), (3, .int x3), (4, .int x4), (5, .int y122), (6, .int y123), (7, .int (nI 1)), (8, .int (nI 1)), (9, .int (nI 0))]) 6 [1, 2, 3, 4, 5, 6, 0, 7, 8, 9] dX3_flangesIn_118 rfl (by rw [ey123]; rfl) rfl (by decide) ?_
                        refine wp_goto (tgt := 6) dX3_flangesIn_121 (by decide) ?_
                        refine wp_sub (ls' := [(0, .ref r0), (1, .int x1), (2, .int x2), (3, .int x3), (4, .int x4), (5, .int y122), (6, .int y123)]) [0, 1, 2, 3, 4, 5, 6] rfl ?_
                        exact ih _ _ _ hs
              · have hs := hs.2 c113
                refine wp_iconst (v := (nI 1)) dX3_flangesIn_81 (by decide) ?_
                refine wp_goto (tgt := 86) dX3_flangesIn_82 (by decide) ?_
                refine wp_istore (ls' := [(0, .ref r0), (1, .int x1), (2, .int x2), (3, .int x3), (4, .int x4), (5, .int x5), (6, .int x6), (7, .int (nI 1)), (8, .int (nI 1)), (9, .int (nI 1))]) [1, 2, 3, 4, 5, 6, 7, 8, 9, 0] dX3_flangesIn_86 rfl (by decide) ?_
                refine wp_iload 7 dX3_flangesIn_88 rfl ?_
                refine wp_if_ne (tgt := 118) dX3_flangesIn_90 (by decide) (fun c124 => ?_) (fun c124 => ?_)
                · have hs := hs.1 c124
                  obtain ⟨y125, ey125⟩ : ∃ y : Int32, y = x6 + (nI 1) := ⟨_, rfl⟩
                  have hs := hs y125 ey125
                  refine wp_iinc (v := y125) (ls' := [(0, .ref r0), (1, .int x1), (2, .int x2), (3, .int x3), (4, .int x4), (5, .int x5), (6, .int y125), (7, .int (nI 1)), (8, .int (nI 1)), (9, .int (nI 1))]) 6 [1, 2, 3, 4, 5, 6, 0, 7, 8, 9] dX3_flangesIn_118 rfl (by rw [ey125]; rfl) rfl (by decide) ?_
                  refine wp_goto (tgt := 6) dX3_flangesIn_121 (by decide) ?_
                  refine wp_sub (ls' := [(0, .ref r0), (1, .int x1), (2, .int x2), (3, .int x3), (4, .int x4), (5, .int x5), (6, .int y125)]) [0, 1, 2, 3, 4, 5, 6] rfl ?_
                  exact ih _ _ _ hs
                · have hs := hs.2 c124
                  refine wp_iload 8 dX3_flangesIn_93 rfl ?_
                  refine wp_if_ne (tgt := 118) dX3_flangesIn_95 (by decide) (fun c126 => ?_) (fun c126 => ?_)
                  · have hs := hs.1 c126
                    obtain ⟨y127, ey127⟩ : ∃ y : Int32, y = x6 + (nI 1) := ⟨_, rfl⟩
                    have hs := hs y127 ey127
                    refine wp_iinc (v := y127) (ls' := [(0, .ref r0), (1, .int x1), (2, .int x2), (3, .int x3), (4, .int x4), (5, .int x5), (6, .int y127), (7, .int (nI 1)), (8, .int (nI 1)), (9, .int (nI 1))]) 6 [1, 2, 3, 4, 5, 6, 0, 7, 8, 9] dX3_flangesIn_118 rfl (by rw [ey127]; rfl) rfl (by decide) ?_
                    refine wp_goto (tgt := 6) dX3_flangesIn_121 (by decide) ?_
                    refine wp_sub (ls' := [(0, .ref r0), (1, .int x1), (2, .int x2), (3, .int x3), (4, .int x4), (5, .int x5), (6, .int y127)]) [0, 1, 2, 3, 4, 5, 6] rfl ?_
                    exact ih _ _ _ hs
                  · have hs := hs.2 c126
                    refine wp_iload 9 dX3_flangesIn_98 rfl ?_
                    refine wp_if_ne (tgt := 118) dX3_flangesIn_100 (by decide) (fun c128 => ?_) (fun c128 => ?_)
                    · have hs := hs.1 c128
                      obtain ⟨y129, ey129⟩ : ∃ y : Int32, y = x6 + (nI 1) := ⟨_, rfl⟩
                      have hs := hs y129 ey129
                      refine wp_iinc (v := y129) (ls' := [(0, .ref r0), (1, .int x1), (2, .int x2), (3, .int x3), (4, .int x4), (5, .int x5), (6, .int y129), (7, .int (nI 1)), (8, .int (nI 1)), (9, .int (nI 1))]) 6 [1, 2, 3, 4, 5, 6, 0, 7, 8, 9] dX3_flangesIn_118 rfl (by rw [ey129]; rfl) rfl (by decide) ?_
                      refine wp_goto (tgt := 6) dX3_flangesIn_121 (by decide) ?_
                      refine wp_sub (ls' := [(0, .ref r0), (1, .int x1), (2, .int x2), (3, .int x3), (4, .int x4), (5, .int x5), (6, .int y129)]) [0, 1, 2, 3, 4, 5, 6] rfl ?_
                      exact ih _ _ _ hs
                    · have hs := hs.2 c128
                      refine wp_iload_n 3 dX3_flangesIn_103 rfl ?_
                      refine wp_iload 4 dX3_flangesIn_104 rfl ?_
                      refine wp_icmp_gt (tgt := 118) dX3_flangesIn_106 (by decide) (fun c130 => ?_) (fun c130 => ?_)
                      · have hs := hs.1 c130
                        obtain ⟨y131, ey131⟩ : ∃ y : Int32, y = x6 + (nI 1) := ⟨_, rfl⟩
                        have hs := hs y131 ey131
                        refine wp_iinc (v := y131) (ls' := [(0, .ref r0), (1, .int x1), (2, .int x2), (3, .int x3), (4, .int x4), (5, .int x5), (6, .int y131), (7, .int (nI 1)), (8, .int (nI 1)), (9, .int (nI 1))]) 6 [1, 2, 3, 4, 5, 6, 0, 7, 8, 9] dX3_flangesIn_118 rfl (by rw [ey131]; rfl) rfl (by decide) ?_
                        refine wp_goto (tgt := 6) dX3_flangesIn_121 (by decide) ?_
                        refine wp_sub (ls' := [(0, .ref r0), (1, .int x1), (2, .int x2), (3, .int x3), (4, .int x4), (5, .int x5), (6, .int y131)]) [0, 1, 2, 3, 4, 5, 6] rfl ?_
                        exact ih _ _ _ hs
                      · have hs := hs.2 c130
                        refine wp_iload 5 dX3_flangesIn_109 rfl ?_
                        refine wp_iconst (v := (nI 1)) dX3_flangesIn_111 (by decide) ?_
                        refine wp_iload 6 dX3_flangesIn_112 rfl ?_
                        refine wp_ishl dX3_flangesIn_114 ?_
                        refine wp_ior dX3_flangesIn_115 ?_
                        refine wp_topi (fun y132 ey132 => ?_)
                        have hs := hs y132 ey132
                        refine wp_istore (ls' := [(0, .ref r0), (1, .int x1), (2, .int x2), (3, .int x3), (4, .int x4), (5, .int y132), (6, .int x6), (7, .int (nI 1)), (8, .int (nI 1)), (9, .int (nI 1))]) [1, 2, 3, 4, 5, 0, 6, 7, 8, 9] dX3_flangesIn_116 rfl (by decide) ?_
                        obtain ⟨y133, ey133⟩ : ∃ y : Int32, y = x6 + (nI 1) := ⟨_, rfl⟩
                        have hs := hs y133 ey133
                        refine wp_iinc (v := y133) (ls' := [(0, .ref r0), (1, .int x1), (2, .int x2), (3, .int x3), (4, .int x4), (5, .int y132), (6, .int y133), (7, .int (nI 1)), (8, .int (nI 1)), (9, .int (nI 1))]) 6 [1, 2, 3, 4, 5, 6, 0, 7, 8, 9] dX3_flangesIn_118 rfl (by rw [ey133]; rfl) rfl (by decide) ?_
                        refine wp_goto (tgt := 6) dX3_flangesIn_121 (by decide) ?_
                        refine wp_sub (ls' := [(0, .ref r0), (1, .int x1), (2, .int x2), (3, .int x3), (4, .int x4), (5, .int y132), (6, .int y133)]) [0, 1, 2, 3, 4, 5, 6] rfl ?_
                        exact ih _ _ _ hs
def w_X3_flangesIn (r0 : Nat) (a : Int32) (b : Int32) (c : Int32) (d : Int32) (M : Nat → Nat → Int32) (Q : Int32 → (Nat → Nat → Int32) → Prop) : Prop := w_X3_flangesIn_6 r0 FU a b c d (nI 0) (nI 0) M (fun y134 y135 M136 => Q y134 M136)
set_option maxHeartbeats 4000000 in
set_option maxRecDepth 100000 in
theorem mw_X3_flangesIn {E : EN} {r0 : Nat} {a : Int32} {b : Int32} {c : Int32} {d : Int32} {M : Nat → Nat → Int32} {Q : Int32 → (Nat → Nat → Int32) → Prop} (h0 : isH r0) (hs : w_X3_flangesIn r0 a b c d M Q) : MW E iX3_flangesIn 1 0 0 false [.ref r0, .int a, .int b, .int c, .int d] σC 46 M (qI σC 46 Q) := by
  refine mw_intro (ls := [(0, .ref r0), (1, .int a), (2, .int b), (3, .int c), (4, .int d)]) rfl (by decide +kernel) rfl rfl (Nat.le_of_ble_eq_true rfl) ?_
  have hQ : ∀ x M, Q x M → (qI σC 46 Q) (some (.int x)) σC 46 M := fun _ _ h => ⟨_, rfl, rfl, rfl, h⟩
  generalize (qI σC 46 Q) = Qf at hQ ⊢
  unfold w_X3_flangesIn at hs
  refine wp_iconst (v := (nI 0)) dX3_flangesIn_0 (by decide) ?_
  refine wp_istore (ls' := [(0, .ref r0), (1, .int a), (2, .int b), (3, .int c), (4, .int d), (5, .int (nI 0))]) [1, 2, 3, 4, 5, 0] dX3_flangesIn_1 rfl (by decide) ?_
  refine wp_iconst (v := (nI 0)) dX3_flangesIn_3 (by decide) ?_
  refine wp_istore (ls' := [(0, .ref r0), (1, .int a), (2, .int b), (3, .int c), (4, .int d), (5, .int (nI 0)), (6, .int (nI 0))]) [1, 2, 3, 4, 5, 6, 0] dX3_flangesIn_4 rfl (by decide) ?_
  refine wp_sub (ls' := [(0, .ref r0), (1, .int a), (2, .int b), (3, .int c), (4, .int d), (5, .int (nI 0)), (6, .int (nI 0))]) [0, 1, 2, 3, 4, 5, 6] rfl ?_
  refine lp_X3_flangesIn_6 h0 (K := fun y134 y135 M136 => Q y134 M136) (fun y134 y135 M136 hs => ?_) FU _ _ _ hs
  refine wp_iload 0 dX3_flangesIn_124 rfl ?_
  exact wp_ireturn rfl rfl dX3_flangesIn_126 (hQ _ _ hs)
abbrev iX3_draw : MI := (cX3_draw, 5, none, RX3, yX3_draw, wsX3_draw)
theorem hy_X3_draw : yX3_draw.cls = RX3 ∧ yX3_draw.cls ≠ "java/lang/invoke/MethodHandle" ∧ yX3_draw.cls ≠ "java/lang/invoke/VarHandle" ∧ (parseMethodDescriptor yX3_draw.desc).map (fun d => d.parameters.length) = some 2 := by decide +kernel
theorem in_X3_draw_X3 : ∀ w ∈ u_ws RX3 TX3 11, w ∈ wsX3_draw := by decide +kernel
theorem fl_X3_draw_9 : Cond.fieldLink RX3 9 (TX3 5).1 (TX3 5).2.1 (TX3 5).2.2.1 ∈ wsX3_draw := by decide +kernel
theorem fl_X3_draw_15 : Cond.fieldLink RX3 15 (TX3 6).1 (TX3 6).2.1 (TX3 6).2.2.1 ∈ wsX3_draw := by decide +kernel
theorem fl_X3_draw_18 : Cond.fieldLink RX3 18 (TX3 7).1 (TX3 7).2.1 (TX3 7).2.2.1 ∈ wsX3_draw := by decide +kernel
theorem fl_X3_draw_21 : Cond.fieldLink RX3 21 (TX3 8).1 (TX3 8).2.1 (TX3 8).2.2.1 ∈ wsX3_draw := by decide +kernel
theorem fl_X3_draw_24 : Cond.fieldLink RX3 24 (TX3 9).1 (TX3 9).2.1 (TX3 9).2.2.1 ∈ wsX3_draw := by decide +kernel
theorem fl_X3_draw_27 : Cond.fieldLink RX3 27 (TX3 10).1 (TX3 10).2.1 (TX3 10).2.2.1 ∈ wsX3_draw := by decide +kernel
theorem fl_X3_draw_65 : Cond.fieldLink RX3 65 (TX3 1).1 (TX3 1).2.1 (TX3 1).2.2.1 ∈ wsX3_draw := by decide +kernel
theorem fl_X3_draw_68 : Cond.fieldLink RX3 68 (TX3 2).1 (TX3 2).2.1 (TX3 2).2.2.1 ∈ wsX3_draw := by decide +kernel
theorem fl_X3_draw_71 : Cond.fieldLink RX3 71 (TX3 3).1 (TX3 3).2.1 (TX3 3).2.2.1 ∈ wsX3_draw := by decide +kernel
theorem fl_X3_draw_74 : Cond.fieldLink RX3 74 (TX3 4).1 (TX3 4).2.1 (TX3 4).2.2.1 ∈ wsX3_draw := by decide +kernel
def w_X3_draw (r0 : Nat) (a : Int32) (b : Int32) (M : Nat → Nat → Int32) (Q : (Nat → Nat → Int32) → Prop) : Prop := ((a < 0 → Q M) ∧ (¬ a < 0 → ((a < (nI 8) → ∀ y3 : Int32, y3 = (M r0 1) → ∀ y4 : Int32, y4 = (M r0 2) → ∀ M5 : Nat → Nat → Int32, M5 = um M r0 (upd (M r0) 1 ((M r0 1) + ((M r0 3) * b))) → ∀ M6 : Nat → Nat → Int32, M6 = um M5 r0 (upd (M5 r0) 2 ((M5 r0 2) + ((M5 r0 4) * b))) → ((0 ≤ (M6 r0 3) → (vp_in a 8 ∧ ∀ M8 : Nat → Nat → Int32, M8 = um M6 (r0 + 1) (upd (M6 (r0 + 1)) a.toNatClampNeg y3) → ((0 ≤ (M8 r0 3) → (vp_in a 8 ∧ ∀ M10 : Nat → Nat → Int32, M10 = um M8 (r0 + 2) (upd (M8 (r0 + 2)) a.toNatClampNeg (M8 r0 1)) → ((0 ≤ (M10 r0 4) → (vp_in a 8 ∧ ∀ M12 : Nat → Nat → Int32, M12 = um M10 (r0 + 3) (upd (M10 (r0 + 3)) a.toNatClampNeg y4) → ((0 ≤ (M12 r0 4) → (vp_in a 8 ∧ ∀ M14 : Nat → Nat → Int32, M14 = um M12 (r0 + 4) (upd (M12 (r0 + 4)) a.toNatClampNeg (M12 r0 2)) → (vp_in a 8 ∧ ∀ M15 : Nat → Nat → Int32, M15 = um M14 (r0 + 5) (upd (M14 (r0 + 5)) a.toNatClampNeg (M14 r0 1)) → (vp_in a 8 ∧ ∀ M16 : Nat → Nat → Int32, M16 = um M15 (r0 + 6) (upd (M15 (r0 + 6)) a.toNatClampNeg (M15 r0 2)) → Q M16)))) ∧ (¬ 0 ≤ (M12 r0 4) → (vp_in a 8 ∧ ∀ M17 : Nat → Nat → Int32, M17 = um M12 (r0 + 4) (upd (M12 (r0 + 4)) a.toNatClampNeg y4) → (vp_in a 8 ∧ ∀ M18 : Nat → Nat → Int32, M18 = um M17 (r0 + 5) (upd (M17 (r0 + 5)) a.toNatClampNeg (M17 r0 1)) → (vp_in a 8 ∧ ∀ M19 : Nat → Nat → Int32, M19 = um M18 (r0 + 6) (upd (M18 (r0 + 6)) a.toNatClampNeg (M18 r0 2)) → Q M19))))))) ∧ (¬ 0 ≤ (M10 r0 4) → (vp_in a 8 ∧ ∀ M20 : Nat → Nat → Int32, M20 = um M10 (r0 + 3) (upd (M10 (r0 + 3)) a.toNatClampNeg (M10 r0 2)) → ((0 ≤ (M20 r0 4) → (vp_in a 8 ∧ ∀ M22 : Nat → Nat → Int32, M22 = um M20 (r0 + 4) (upd (M20 (r0 + 4)) a.toNatClampNeg (M20 r0 2)) → (vp_in a 8 ∧ ∀ M23 : Nat → Nat → Int32, M23 = um M22 (r0 + 5) (upd (M22 (r0 + 5)) a.toNatClampNeg (M22 r0 1)) → (vp_in a 8 ∧ ∀ M24 : Nat → Nat → Int32, M24 = um M23 (r0 + 6) (upd (M23 (r0 + 6)) a.toNatClampNeg (M23 r0 2)) → Q M24)))) ∧ (¬ 0 ≤ (M20 r0 4) → (vp_in a 8 ∧ ∀ M25 : Nat → Nat → Int32, M25 = um M20 (r0 + 4) (upd (M20 (r0 + 4)) a.toNatClampNeg y4) → (vp_in a 8 ∧ ∀ M26 : Nat → Nat → Int32, M26 = um M25 (r0 + 5) (upd (M25 (r0 + 5)) a.toNatClampNeg (M25 r0 1)) → (vp_in a 8 ∧ ∀ M27 : Nat → Nat → Int32, M27 = um M26 (r0 + 6) (upd (M26 (r0 + 6)) a.toNatClampNeg (M26 r0 2)) → Q M27)))))))))) ∧ (¬ 0 ≤ (M8 r0 3) → (vp_in a 8 ∧ ∀ M28 : Nat → Nat → Int32, M28 = um M8 (r0 + 2) (upd (M8 (r0 + 2)) a.toNatClampNeg y3) → ((0 ≤ (M28 r0 4) → (vp_in a 8 ∧ ∀ M30 : Nat → Nat → Int32, M30 = um M28 (r0 + 3) (upd (M28 (r0 + 3)) a.toNatClampNeg y4) → ((0 ≤ (M30 r0 4) → (vp_in a 8 ∧ ∀ M32 : Nat → Nat → Int32, M32 = um M30 (r0 + 4) (upd (M30 (r0 + 4)) a.toNatClampNeg (M30 r0 2)) → (vp_in a 8 ∧ ∀ M33 : Nat → Nat → Int32, M33 = um M32 (r0 + 5) (upd (M32 (r0 + 5)) a.toNatClampNeg (M32 r0 1)) → (vp_in a 8 ∧ ∀ M34 : Nat → Nat → Int32, M34 = um M33 (r0 + 6) (upd (M33 (r0 + 6)) a.toNatClampNeg (M33 r0 2)) → Q M34)))) ∧ (¬ 0 ≤ (M30 r0 4) → (vp_in a 8 ∧ ∀ M35 : Nat → Nat → Int32, M35 = um M30 (r0 + 4) (upd (M30 (r0 + 4)) a.toNatClampNeg y4) → (vp_in a 8 ∧ ∀ M36 : Nat → Nat → Int32, M36 = um M35 (r0 + 5) (upd (M35 (r0 + 5)) a.toNatClampNeg (M35 r0 1)) → (vp_in a 8 ∧ ∀ M37 : Nat → Nat → Int32, M37 = um M36 (r0 + 6) (upd (M36 (r0 + 6)) a.toNatClampNeg (M36 r0 2)) → Q M37))))))) ∧ (¬ 0 ≤ (M28 r0 4) → (vp_in a 8 ∧ ∀ M38 : Nat → Nat → Int32, M38 = um M28 (r0 + 3) (upd (M28 (r0 + 3)) a.toNatClampNeg (M28 r0 2)) → ((0 ≤ (M38 r0 4) → (vp_in a 8 ∧ ∀ M40 : Nat → Nat → Int32, M40 = um M38 (r0 + 4) (upd (M38 (r0 + 4)) a.toNatClampNeg (M38 r0 2)) → (vp_in a 8 ∧ ∀ M41 : Nat → Nat → Int32, M41 = um M40 (r0 + 5) (upd (M40 (r0 + 5)) a.toNatClampNeg (M40 r0 1)) → (vp_in a 8 ∧ ∀ M42 : Nat → Nat → Int32, M42 = um M41 (r0 + 6) (upd (M41 (r0 + 6)) a.toNatClampNeg (M41 r0 2)) → Q M42)))) ∧ (¬ 0 ≤ (M38 r0 4) → (vp_in a 8 ∧ ∀ M43 : Nat → Nat → Int32, M43 = um M38 (r0 + 4) (upd (M38 (r0 + 4)) a.toNatClampNeg y4) → (vp_in a 8 ∧ ∀ M44 : Nat → Nat → Int32, M44 = um M43 (r0 + 5) (upd (M43 (r0 + 5)) a.toNatClampNeg (M43 r0 1)) → (vp_in a 8 ∧ ∀ M45 : Nat → Nat → Int32, M45 = um M44 (r0 + 6) (upd (M44 (r0 + 6)) a.toNatClampNeg (M44 r0 2)) → Q M45))))))))))))) ∧ (¬ 0 ≤ (M6 r0 3) → (vp_in a 8 ∧ ∀ M46 : Nat → Nat → Int32, M46 = um M6 (r0 + 1) (upd (M6 (r0 + 1)) a.toNatClampNeg (M6 r0 1)) → ((0 ≤ (M46 r0 3) → (vp_in a 8 ∧ ∀ M48 : Nat → Nat → Int32, M48 = um M46 (r0 + 2) (upd (M46 (r0 + 2)) a.toNatClampNeg (M46 r0 1)) → ((0 ≤ (M48 r0 4) → (vp_in a 8 ∧ ∀ M50 : Nat → Nat → Int32, M50 = um M48 (r0 + 3) (upd (M48 (r0 + 3)) a.toNatClampNeg y4) → ((0 ≤ (M50 r0 4) → (vp_in a 8 ∧ ∀ M52 : Nat → Nat → Int32, M52 = um M50 (r0 + 4) (upd (M50 (r0 + 4)) a.toNatClampNeg (M50 r0 2)) → (vp_in a 8 ∧ ∀ M53 : Nat → Nat → Int32, M53 = um M52 (r0 + 5) (upd (M52 (r0 + 5)) a.toNatClampNeg (M52 r0 1)) → (vp_in a 8 ∧ ∀ M54 : Nat → Nat → Int32, M54 = um M53 (r0 + 6) (upd (M53 (r0 + 6)) a.toNatClampNeg (M53 r0 2)) → Q M54)))) ∧ (¬ 0 ≤ (M50 r0 4) → (vp_in a 8 ∧ ∀ M55 : Nat → Nat → Int32, M55 = um M50 (r0 + 4) (upd (M50 (r0 + 4)) a.toNatClampNeg y4) → (vp_in a 8 ∧ ∀ M56 : Nat → Nat → Int32, M56 = um M55 (r0 + 5) (upd (M55 (r0 + 5)) a.toNatClampNeg (M55 r0 1)) → (vp_in a 8 ∧ ∀ M57 : Nat → Nat → Int32, M57 = um M56 (r0 + 6) (upd (M56 (r0 + 6)) a.toNatClampNeg (M56 r0 2)) → Q M57))))))) ∧ (¬ 0 ≤ (M48 r0 4) → (vp_in a 8 ∧ ∀ M58 : Nat → Nat → Int32, M58 = um M48 (r0 + 3) (upd (M48 (r0 + 3)) a.toNatClampNeg (M48 r0 2)) → ((0 ≤ (M58 r0 4) → (vp_in a 8 ∧ ∀ M60 : Nat → Nat → Int32, M60 = um M58 (r0 + 4) (upd (M58 (r0 + 4)) a.toNatClampNeg (M58 r0 2)) → (vp_in a 8 ∧ ∀ M61 : Nat → Nat → Int32, M61 = um M60 (r0 + 5) (upd (M60 (r0 + 5)) a.toNatClampNeg (M60 r0 1)) → (vp_in a 8 ∧ ∀ M62 : Nat → Nat → Int32, M62 = um M61 (r0 + 6) (upd (M61 (r0 + 6)) a.toNatClampNeg (M61 r0 2)) → Q M62)))) ∧ (¬ 0 ≤ (M58 r0 4) → (vp_in a 8 ∧ ∀ M63 : Nat → Nat → Int32, M63 = um M58 (r0 + 4) (upd (M58 (r0 + 4)) a.toNatClampNeg y4) → (vp_in a 8 ∧ ∀ M64 : Nat → Nat → Int32, M64 = um M63 (r0 + 5) (upd (M63 (r0 + 5)) a.toNatClampNeg (M63 r0 1)) → (vp_in a 8 ∧ ∀ M65 : Nat → Nat → Int32, M65 = um M64 (r0 + 6) (upd (M64 (r0 + 6)) a.toNatClampNeg (M64 r0 2)) → Q M65)))))))))) ∧ (¬ 0 ≤ (M46 r0 3) → (vp_in a 8 ∧ ∀ M66 : Nat → Nat → Int32, M66 = um M46 (r0 + 2) (upd (M46 (r0 + 2)) a.toNatClampNeg y3) → ((0 ≤ (M66 r0 4) → (vp_in a 8 ∧ ∀ M68 : Nat → Nat → Int32, M68 = um M66 (r0 + 3) (upd (M66 (r0 + 3)) a.toNatClampNeg y4) → ((0 ≤ (M68 r0 4) → (vp_in a 8 ∧ ∀ M70 : Nat → Nat → Int32, M70 = um M68 (r0 + 4) (upd (M68 (r0 + 4)) a.toNatClampNeg (M68 r0 2)) → (vp_in a 8 ∧ ∀ M71 : Nat → Nat → Int32, M71 = um M70 (r0 + 5) (upd (M70 (r0 + 5)) a.toNatClampNeg (M70 r0 1)) → (vp_in a 8 ∧ ∀ M72 : Nat → Nat → Int32, M72 = um M71 (r0 + 6) (upd (M71 (r0 + 6)) a.toNatClampNeg (M71 r0 2)) → Q M72)))) ∧ (¬ 0 ≤ (M68 r0 4) → (vp_in a 8 ∧ ∀ M73 : Nat → Nat → Int32, M73 = um M68 (r0 + 4) (upd (M68 (r0 + 4)) a.toNatClampNeg y4) → (vp_in a 8 ∧ ∀ M74 : Nat → Nat → Int32, M74 = um M73 (r0 + 5) (upd (M73 (r0 + 5)) a.toNatClampNeg (M73 r0 1)) → (vp_in a 8 ∧ ∀ M75 : Nat → Nat → Int32, M75 = um M74 (r0 + 6) (upd (M74 (r0 + 6)) a.toNatClampNeg (M74 r0 2)) → Q M75))))))) ∧ (¬ 0 ≤ (M66 r0 4) → (vp_in a 8 ∧ ∀ M76 : Nat → Nat → Int32, M76 = um M66 (r0 + 3) (upd (M66 (r0 + 3)) a.toNatClampNeg (M66 r0 2)) → ((0 ≤ (M76 r0 4) → (vp_in a 8 ∧ ∀ M78 : Nat → Nat → Int32, M78 = um M76 (r0 + 4) (upd (M76 (r0 + 4)) a.toNatClampNeg (M76 r0 2)) → (vp_in a 8 ∧ ∀ M79 : Nat → Nat → Int32, M79 = um M78 (r0 + 5) (upd (M78 (r0 + 5)) a.toNatClampNeg (M78 r0 1)) → (vp_in a 8 ∧ ∀ M80 : Nat → Nat → Int32, M80 = um M79 (r0 + 6) (upd (M79 (r0 + 6)) a.toNatClampNeg (M79 r0 2)) → Q M80)))) ∧ (¬ 0 ≤ (M76 r0 4) → (vp_in a 8 ∧ ∀ M81 : Nat → Nat → Int32, M81 = um M76 (r0 + 4) (upd (M76 (r0 + 4)) a.toNatClampNeg y4) → (vp_in a 8 ∧ ∀ M82 : Nat → Nat → Int32, M82 = um M81 (r0 + 5) (upd (M81 (r0 + 5)) a.toNatClampNeg (M81 r0 1)) → (vp_in a 8 ∧ ∀ M83 : Nat → Nat → Int32, M83 = um M82 (r0 + 6) (upd (M82 (r0 + 6)) a.toNatClampNeg (M82 r0 2)) → Q M83))))))))))))))) ∧ (¬ a < (nI 8) → Q M))))
set_option maxHeartbeats 4000000 in
set_option maxRecDepth 100000 in
theorem mw_X3_draw {E : EN} {r0 : Nat} {a : Int32} {b : Int32} {M : Nat → Nat → Int32} {Q : (Nat → Nat → Int32) → Prop} (h0 : isH r0) (hs : w_X3_draw r0 a b M Q) : MW E iX3_draw 1 0 0 false [.ref r0, .int a, .int b] σC 46 M (qV σC 46 Q) := by
  refine mw_intro (ls := [(0, .ref r0), (1, .int a), (2, .int b)]) rfl (by decide +kernel) rfl rfl (Nat.le_of_ble_eq_true rfl) ?_
  have hQ : ∀ M, Q M → (qV σC 46 Q) none σC 46 M := fun _ h => ⟨rfl, rfl, rfl, h⟩
  generalize (qV σC 46 Q) = Qf at hQ ⊢
  unfold w_X3_draw at hs
  refine wp_iload_n 1 dX3_draw_0 rfl ?_
  refine wp_if_lt (tgt := 10) dX3_draw_1 (by decide) (fun c1 => ?_) (fun c1 => ?_)
  · have hs := hs.1 c1
    exact wp_return rfl dX3_draw_10 (hQ _ hs)
  · have hs := hs.2 c1
    refine wp_iload_n 1 dX3_draw_4 rfl ?_
    refine wp_bipush (v := (nI 8)) dX3_draw_5 (by decide) ?_
    refine wp_icmp_lt (tgt := 11) dX3_draw_7 (by decide) (fun c2 => ?_) (fun c2 => ?_)
    · have hs := hs.1 c2
      refine wp_aload_n 0 dX3_draw_11 rfl ?_
      refine wp_get (v := .int (M r0 1)) dX3_draw_12 (σ_isH h0) (lt_isH h0) rfl in_X3_draw_X3 1 (by decide) fl_X3_draw_65 rfl rfl ?_
      refine wp_topi (fun y3 ey3 => ?_)
      have hs := hs y3 ey3
      refine wp_istore_n (ls' := [(0, .ref r0), (1, .int a), (2, .int b), (3, .int y3)]) [1, 2, 3, 0] dX3_draw_15 rfl (by decide) ?_
      refine wp_aload_n 0 dX3_draw_16 rfl ?_
      refine wp_get (v := .int (M r0 2)) dX3_draw_17 (σ_isH h0) (lt_isH h0) rfl in_X3_draw_X3 2 (by decide) fl_X3_draw_68 rfl rfl ?_
      refine wp_topi (fun y4 ey4 => ?_)
      have hs := hs y4 ey4
      refine wp_istore (ls' := [(0, .ref r0), (1, .int a), (2, .int b), (3, .int y3), (4, .int y4)]) [1, 2, 3, 4, 0] dX3_draw_20 rfl (by decide) ?_
      refine wp_aload_n 0 dX3_draw_22 rfl ?_
      refine wp_dup rfl dX3_draw_23 ?_
      refine wp_get (v := .int (M r0 1)) dX3_draw_24 (σ_isH h0) (lt_isH h0) rfl in_X3_draw_X3 1 (by decide) fl_X3_draw_65 rfl rfl ?_
      refine wp_aload_n 0 dX3_draw_27 rfl ?_
      refine wp_get (v := .int (M r0 3)) dX3_draw_28 (σ_isH h0) (lt_isH h0) rfl in_X3_draw_X3 3 (by decide) fl_X3_draw_71 rfl rfl ?_
      refine wp_iload_n 2 dX3_draw_31 rfl ?_
      refine wp_imul dX3_draw_32 ?_
      refine wp_iadd dX3_draw_33 ?_
      refine wp_put (ty := .int) tyX3 tyX3_ok nmX3 (σ_isH h0) (lt_isH h0) rfl in_X3_draw_X3 1 (by decide) fl_X3_draw_65 rfl rfl (by decide +kernel) rfl rfl dX3_draw_34 (fun M5 eM5 => ?_)
      have hs := hs M5 eM5
      refine wp_aload_n 0 dX3_draw_37 rfl ?_
      refine wp_dup rfl dX3_draw_38 ?_
      refine wp_get (v := .int (M5 r0 2)) dX3_draw_39 (σ_isH h0) (lt_isH h0) rfl in_X3_draw_X3 2 (by decide) fl_X3_draw_68 rfl rfl ?_
      refine wp_aload_n 0 dX3_draw_42 rfl ?_
      refine wp_get (v := .int (M5 r0 4)) dX3_draw_43 (σ_isH h0) (lt_isH h0) rfl in_X3_draw_X3 4 (by decide) fl_X3_draw_74 rfl rfl ?_
      refine wp_iload_n 2 dX3_draw_46 rfl ?_
      refine wp_imul dX3_draw_47 ?_
      refine wp_iadd dX3_draw_48 ?_
      refine wp_put (ty := .int) tyX3 tyX3_ok nmX3 (σ_isH h0) (lt_isH h0) rfl in_X3_draw_X3 2 (by decide) fl_X3_draw_68 rfl rfl (by decide +kernel) rfl rfl dX3_draw_49 (fun M6 eM6 => ?_)
      have hs := hs M6 eM6
      refine wp_aload_n 0 dX3_draw_52 rfl ?_
      refine wp_get (v := .ref (r0 + 1)) dX3_draw_53 (σ_isH h0) (lt_isH h0) rfl in_X3_draw_X3 5 (by decide) fl_X3_draw_9 rfl rfl ?_
      refine wp_iload_n 1 dX3_draw_56 rfl ?_
      refine wp_aload_n 0 dX3_draw_57 rfl ?_
      refine wp_get (v := .int (M6 r0 3)) dX3_draw_58 (σ_isH h0) (lt_isH h0) rfl in_X3_draw_X3 3 (by decide) fl_X3_draw_71 rfl rfl ?_
      refine wp_if_ge (tgt := 71) dX3_draw_61 (by decide) (fun c7 => ?_) (fun c7 => ?_)
      · have hs := hs.1 c7
        refine wp_iload_n 3 dX3_draw_71 rfl ?_
        have hv := hs.1
        have hs := hs.2
        refine wp_iast (σ_isH1 h0) (lt_isH1 h0) hv dX3_draw_72 (fun M8 eM8 => ?_)
        have hs := hs M8 eM8
        refine wp_aload_n 0 dX3_draw_73 rfl ?_
        refine wp_get (v := .ref (r0 + 2)) dX3_draw_74 (σ_isH h0) (lt_isH h0) rfl in_X3_draw_X3 6 (by decide) fl_X3_draw_15 rfl rfl ?_
        refine wp_iload_n 1 dX3_draw_77 rfl ?_
        refine wp_aload_n 0 dX3_draw_78 rfl ?_
        refine wp_get (v := .int (M8 r0 3)) dX3_draw_79 (σ_isH h0) (lt_isH h0) rfl in_X3_draw_X3 3 (by decide) fl_X3_draw_71 rfl rfl ?_
        refine wp_if_ge (tgt := 89) dX3_draw_82 (by decide) (fun c9 => ?_) (fun c9 => ?_)
        · have hs := hs.1 c9
          refine wp_aload_n 0 dX3_draw_89 rfl ?_
          refine wp_get (v := .int (M8 r0 1)) dX3_draw_90 (σ_isH h0) (lt_isH h0) rfl in_X3_draw_X3 1 (by decide) fl_X3_draw_65 rfl rfl ?_
          have hv := hs.1
          have hs := hs.2
          refine wp_iast (σ_isH2 h0) (lt_isH2 h0) hv dX3_draw_93 (fun M10 eM10 => ?_)
          have hs := hs M10 eM10
          refine wp_aload_n 0 dX3_draw_94 rfl ?_
          refine wp_get (v := .ref (r0 + 3)) dX3_draw_95 (σ_isH h0) (lt_isH h0) rfl in_X3_draw_X3 7 (by decide) fl_X3_draw_18 rfl rfl ?_
          refine wp_iload_n 1 dX3_draw_98 rfl ?_
          refine wp_aload_n 0 dX3_draw_99 rfl ?_
          refine wp_get (v := .int (M10 r0 4)) dX3_draw_100 (σ_isH h0) (lt_isH h0) rfl in_X3_draw_X3 4 (by decide) fl_X3_draw_74 rfl rfl ?_
          refine wp_if_ge (tgt := 113) dX3_draw_103 (by decide) (fun c11 => ?_) (fun c11 => ?_)
          · have hs := hs.1 c11
            refine wp_iload 4 dX3_draw_113 rfl ?_
            have hv := hs.1
            have hs := hs.2
            refine wp_iast (σ_isH3 h0) (lt_isH3 h0) hv dX3_draw_115 (fun M12 eM12 => ?_)
            have hs := hs M12 eM12
            refine wp_aload_n 0 dX3_draw_116 rfl ?_
            refine wp_get (v := .ref (r0 + 4)) dX3_draw_117 (σ_isH h0) (lt_isH h0) rfl in_X3_draw_X3 8 (by decide) fl_X3_draw_21 rfl rfl ?_
            refine wp_iload_n 1 dX3_draw_120 rfl ?_
            refine wp_aload_n 0 dX3_draw_121 rfl ?_
            refine wp_get (v := .int (M12 r0 4)) dX3_draw_122 (σ_isH h0) (lt_isH h0) rfl in_X3_draw_X3 4 (by decide) fl_X3_draw_74 rfl rfl ?_
            refine wp_if_ge (tgt := 133) dX3_draw_125 (by decide) (fun c13 => ?_) (fun c13 => ?_)
            · have hs := hs.1 c13
              refine wp_aload_n 0 dX3_draw_133 rfl ?_
              refine wp_get (v := .int (M12 r0 2)) dX3_draw_134 (σ_isH h0) (lt_isH h0) rfl in_X3_draw_X3 2 (by decide) fl_X3_draw_68 rfl rfl ?_
              have hv := hs.1
              have hs := hs.2
              refine wp_iast (σ_isH4 h0) (lt_isH4 h0) hv dX3_draw_137 (fun M14 eM14 => ?_)
              have hs := hs M14 eM14
              refine wp_aload_n 0 dX3_draw_138 rfl ?_
              refine wp_get (v := .ref (r0 + 5)) dX3_draw_139 (σ_isH h0) (lt_isH h0) rfl in_X3_draw_X3 9 (by decide) fl_X3_draw_24 rfl rfl ?_
              refine wp_iload_n 1 dX3_draw_142 rfl ?_
              refine wp_aload_n 0 dX3_draw_143 rfl ?_
              refine wp_get (v := .int (M14 r0 1)) dX3_draw_144 (σ_isH h0) (lt_isH h0) rfl in_X3_draw_X3 1 (by decide) fl_X3_draw_65 rfl rfl ?_
              have hv := hs.1
              have hs := hs.2
              refine wp_iast (σ_isH5 h0) (lt_isH5 h0) hv dX3_draw_147 (fun M15 eM15 => ?_)
              have hs := hs M15 eM15
              refine wp_aload_n 0 dX3_draw_148 rfl ?_
              refine wp_get (v := .ref (r0 + 6)) dX3_draw_149 (σ_isH h0) (lt_isH h0) rfl in_X3_draw_X3 10 (by decide) fl_X3_draw_27 rfl rfl ?_
              refine wp_iload_n 1 dX3_draw_152 rfl ?_
              refine wp_aload_n 0 dX3_draw_153 rfl ?_
              refine wp_get (v := .int (M15 r0 2)) dX3_draw_154 (σ_isH h0) (lt_isH h0) rfl in_X3_draw_X3 2 (by decide) fl_X3_draw_68 rfl rfl ?_
              have hv := hs.1
              have hs := hs.2
              refine wp_iast (σ_isH6 h0) (lt_isH6 h0) hv dX3_draw_157 (fun M16 eM16 => ?_)
              have hs := hs M16 eM16
              exact wp_return rfl dX3_draw_158 (hQ _ hs)
            · have hs := hs.2 c13
              refine wp_iload 4 dX3_draw_128 rfl ?_
              refine wp_goto (tgt := 137) dX3_draw_130 (by decide) ?_
              have hv := hs.1
              have hs := hs.2
              refine wp_iast (σ_isH4 h0) (lt_isH4 h0) hv dX3_draw_137 (fun M17 eM17 => ?_)
              have hs := hs M17 eM17
              refine wp_aload_n 0 dX3_draw_138 rfl ?_
              refine wp_get (v := .ref (r0 + 5)) dX3_draw_139 (σ_isH h0) (lt_isH h0) rfl in_X3_draw_X3 9 (by decide) fl_X3_draw_24 rfl rfl ?_
              refine wp_iload_n 1 dX3_draw_142 rfl ?_
              refine wp_aload_n 0 dX3_draw_143 rfl ?_
              refine wp_get (v := .int (M17 r0 1)) dX3_draw_144 (σ_isH h0) (lt_isH h0) rfl in_X3_draw_X3 1 (by decide) fl_X3_draw_65 rfl rfl ?_
              have hv := hs.1
              have hs := hs.2
              refine wp_iast (σ_isH5 h0) (lt_isH5 h0) hv dX3_draw_147 (fun M18 eM18 => ?_)
              have hs := hs M18 eM18
              refine wp_aload_n 0 dX3_draw_148 rfl ?_
              refine wp_get (v := .ref (r0 + 6)) dX3_draw_149 (σ_isH h0) (lt_isH h0) rfl in_X3_draw_X3 10 (by decide) fl_X3_draw_27 rfl rfl ?_
              refine wp_iload_n 1 dX3_draw_152 rfl ?_
              refine wp_aload_n 0 dX3_draw_153 rfl ?_
              refine wp_get (v := .int (M18 r0 2)) dX3_draw_154 (σ_isH h0) (lt_isH h0) rfl in_X3_draw_X3 2 (by decide) fl_X3_draw_68 rfl rfl ?_
              have hv := hs.1
              have hs := hs.2
              refine wp_iast (σ_isH6 h0) (lt_isH6 h0) hv dX3_draw_157 (fun M19 eM19 => ?_)
              have hs := hs M19 eM19
              exact wp_return rfl dX3_draw_158 (hQ _ hs)
          · have hs := hs.2 c11
            refine wp_aload_n 0 dX3_draw_106 rfl ?_
            refine wp_get (v := .int (M10 r0 2)) dX3_draw_107 (σ_isH h0) (lt_isH h0) rfl in_X3_draw_X3 2 (by decide) fl_X3_draw_68 rfl rfl ?_
            refine wp_goto (tgt := 115) dX3_draw_110 (by decide) ?_
            have hv := hs.1
            have hs := hs.2
            refine wp_iast (σ_isH3 h0) (lt_isH3 h0) hv dX3_draw_115 (fun M20 eM20 => ?_)
            have hs := hs M20 eM20
            refine wp_aload_n 0 dX3_draw_116 rfl ?_
            refine wp_get (v := .ref (r0 + 4)) dX3_draw_117 (σ_isH h0) (lt_isH h0) rfl in_X3_draw_X3 8 (by decide) fl_X3_draw_21 rfl rfl ?_
            refine wp_iload_n 1 dX3_draw_120 rfl ?_
            refine wp_aload_n 0 dX3_draw_121 rfl ?_
            refine wp_get (v := .int (M20 r0 4)) dX3_draw_122 (σ_isH h0) (lt_isH h0) rfl in_X3_draw_X3 4 (by decide) fl_X3_draw_74 rfl rfl ?_
            refine wp_if_ge (tgt := 133) dX3_draw_125 (by decide) (fun c21 => ?_) (fun c21 => ?_)
            · have hs := hs.1 c21
              refine wp_aload_n 0 dX3_draw_133 rfl ?_
              refine wp_get (v := .int (M20 r0 2)) dX3_draw_134 (σ_isH h0) (lt_isH h0) rfl in_X3_draw_X3 2 (by decide) fl_X3_draw_68 rfl rfl ?_
              have hv := hs.1
              have hs := hs.2
              refine wp_iast (σ_isH4 h0) (lt_isH4 h0) hv dX3_draw_137 (fun M22 eM22 => ?_)
              have hs := hs M22 eM22
              refine wp_aload_n 0 dX3_draw_138 rfl ?_
              refine wp_get (v := .ref (r0 + 5)) dX3_draw_139 (σ_isH h0) (lt_isH h0) rfl in_X3_draw_X3 9 (by decide) fl_X3_draw_24 rfl rfl ?_
              refine wp_iload_n 1 dX3_draw_142 rfl ?_
              refine wp_aload_n 0 dX3_draw_143 rfl ?_
              refine wp_get (v := .int (M22 r0 1)) dX3_draw_144 (σ_isH h0) (lt_isH h0) rfl in_X3_draw_X3 1 (by decide) fl_X3_draw_65 rfl rfl ?_
              have hv := hs.1
              have hs := hs.2
              refine wp_iast (σ_isH5 h0) (lt_isH5 h0) hv dX3_draw_147 (fun M23 eM23 => ?_)
              have hs := hs M23 eM23
              refine wp_aload_n 0 dX3_draw_148 rfl ?_
              refine wp_get (v := .ref (r0 + 6)) dX3_draw_149 (σ_isH h0) (lt_isH h0) rfl in_X3_draw_X3 10 (by decide) fl_X3_draw_27 rfl rfl ?_
              refine wp_iload_n 1 dX3_draw_152 rfl ?_
              refine wp_aload_n 0 dX3_draw_153 rfl ?_
              refine wp_get (v := .int (M23 r0 2)) dX3_draw_154 (σ_isH h0) (lt_isH h0) rfl in_X3_draw_X3 2 (by decide) fl_X3_draw_68 rfl rfl ?_
              have hv := hs.1
              have hs := hs.2
              refine wp_iast (σ_isH6 h0) (lt_isH6 h0) hv dX3_draw_157 (fun M24 eM24 => ?_)
              have hs := hs M24 eM24
              exact wp_return rfl dX3_draw_158 (hQ _ hs)
            · have hs := hs.2 c21
              refine wp_iload 4 dX3_draw_128 rfl ?_
              refine wp_goto (tgt := 137) dX3_draw_130 (by decide) ?_
              have hv := hs.1
              have hs := hs.2
              refine wp_iast (σ_isH4 h0) (lt_isH4 h0) hv dX3_draw_137 (fun M25 eM25 => ?_)
              have hs := hs M25 eM25
              refine wp_aload_n 0 dX3_draw_138 rfl ?_
              refine wp_get (v := .ref (r0 + 5)) dX3_draw_139 (σ_isH h0) (lt_isH h0) rfl in_X3_draw_X3 9 (by decide) fl_X3_draw_24 rfl rfl ?_
              refine wp_iload_n 1 dX3_draw_142 rfl ?_
              refine wp_aload_n 0 dX3_draw_143 rfl ?_
              refine wp_get (v := .int (M25 r0 1)) dX3_draw_144 (σ_isH h0) (lt_isH h0) rfl in_X3_draw_X3 1 (by decide) fl_X3_draw_65 rfl rfl ?_
              have hv := hs.1
              have hs := hs.2
              refine wp_iast (σ_isH5 h0) (lt_isH5 h0) hv dX3_draw_147 (fun M26 eM26 => ?_)
              have hs := hs M26 eM26
              refine wp_aload_n 0 dX3_draw_148 rfl ?_
              refine wp_get (v := .ref (r0 + 6)) dX3_draw_149 (σ_isH h0) (lt_isH h0) rfl in_X3_draw_X3 10 (by decide) fl_X3_draw_27 rfl rfl ?_
              refine wp_iload_n 1 dX3_draw_152 rfl ?_
              refine wp_aload_n 0 dX3_draw_153 rfl ?_
              refine wp_get (v := .int (M26 r0 2)) dX3_draw_154 (σ_isH h0) (lt_isH h0) rfl in_X3_draw_X3 2 (by decide) fl_X3_draw_68 rfl rfl ?_
              have hv := hs.1
              have hs := hs.2
              refine wp_iast (σ_isH6 h0) (lt_isH6 h0) hv dX3_draw_157 (fun M27 eM27 => ?_)
              have hs := hs M27 eM27
              exact wp_return rfl dX3_draw_158 (hQ _ hs)
        · have hs := hs.2 c9
          refine wp_iload_n 3 dX3_draw_85 rfl ?_
          refine wp_goto (tgt := 93) dX3_draw_86 (by decide) ?_
          have hv := hs.1
          have hs := hs.2
          refine wp_iast (σ_isH2 h0) (lt_isH2 h0) hv dX3_draw_93 (fun M28 eM28 => ?_)
          have hs := hs M28 eM28
          refine wp_aload_n 0 dX3_draw_94 rfl ?_
          refine wp_get (v := .ref (r0 + 3)) dX3_draw_95 (σ_isH h0) (lt_isH h0) rfl in_X3_draw_X3 7 (by decide) fl_X3_draw_18 rfl rfl ?_
          refine wp_iload_n 1 dX3_draw_98 rfl ?_
          refine wp_aload_n 0 dX3_draw_99 rfl ?_
          refine wp_get (v := .int (M28 r0 4)) dX3_draw_100 (σ_isH h0) (lt_isH h0) rfl in_X3_draw_X3 4 (by decide) fl_X3_draw_74 rfl rfl ?_
          refine wp_if_ge (tgt := 113) dX3_draw_103 (by decide) (fun c29 => ?_) (fun c29 => ?_)
          · have hs := hs.1 c29
            refine wp_iload 4 dX3_draw_113 rfl ?_
            have hv := hs.1
            have hs := hs.2
            refine wp_iast (σ_isH3 h0) (lt_isH3 h0) hv dX3_draw_115 (fun M30 eM30 => ?_)
            have hs := hs M30 eM30
            refine wp_aload_n 0 dX3_draw_116 rfl ?_
            refine wp_get (v := .ref (r0 + 4)) dX3_draw_117 (σ_isH h0) (lt_isH h0) rfl in_X3_draw_X3 8 (by decide) fl_X3_draw_21 rfl rfl ?_
            refine wp_iload_n 1 dX3_draw_120 rfl ?_
            refine wp_aload_n 0 dX3_draw_121 rfl ?_
            refine wp_get (v := .int (M30 r0 4)) dX3_draw_122 (σ_isH h0) (lt_isH h0) rfl in_X3_draw_X3 4 (by decide) fl_X3_draw_74 rfl rfl ?_
            refine wp_if_ge (tgt := 133) dX3_draw_125 (by decide) (fun c31 => ?_) (fun c31 => ?_)
            · have hs := hs.1 c31
              refine wp_aload_n 0 dX3_draw_133 rfl ?_
              refine wp_get (v := .int (M30 r0 2)) dX3_draw_134 (σ_isH h0) (lt_isH h0) rfl in_X3_draw_X3 2 (by decide) fl_X3_draw_68 rfl rfl ?_
              have hv := hs.1
              have hs := hs.2
              refine wp_iast (σ_isH4 h0) (lt_isH4 h0) hv dX3_draw_137 (fun M32 eM32 => ?_)
              have hs := hs M32 eM32
              refine wp_aload_n 0 dX3_draw_138 rfl ?_
              refine wp_get (v := .ref (r0 + 5)) dX3_draw_139 (σ_isH h0) (lt_isH h0) rfl in_X3_draw_X3 9 (by decide) fl_X3_draw_24 rfl rfl ?_
              refine wp_iload_n 1 dX3_draw_142 rfl ?_
              refine wp_aload_n 0 dX3_draw_143 rfl ?_
              refine wp_get (v := .int (M32 r0 1)) dX3_draw_144 (σ_isH h0) (lt_isH h0) rfl in_X3_draw_X3 1 (by decide) fl_X3_draw_65 rfl rfl ?_
              have hv := hs.1
              have hs := hs.2
              refine wp_iast (σ_isH5 h0) (lt_isH5 h0) hv dX3_draw_147 (fun M33 eM33 => ?_)
              have hs := hs M33 eM33
              refine wp_aload_n 0 dX3_draw_148 rfl ?_
              refine wp_get (v := .ref (r0 + 6)) dX3_draw_149 (σ_isH h0) (lt_isH h0) rfl in_X3_draw_X3 10 (by decide) fl_X3_draw_27 rfl rfl ?_
              refine wp_iload_n 1 dX3_draw_152 rfl ?_
              refine wp_aload_n 0 dX3_draw_153 rfl ?_
              refine wp_get (v := .int (M33 r0 2)) dX3_draw_154 (σ_isH h0) (lt_isH h0) rfl in_X3_draw_X3 2 (by decide) fl_X3_draw_68 rfl rfl ?_
              have hv := hs.1
              have hs := hs.2
              refine wp_iast (σ_isH6 h0) (lt_isH6 h0) hv dX3_draw_157 (fun M34 eM34 => ?_)
              have hs := hs M34 eM34
              exact wp_return rfl dX3_draw_158 (hQ _ hs)
            · have hs := hs.2 c31
              refine wp_iload 4 dX3_draw_128 rfl ?_
              refine wp_goto (tgt := 137) dX3_draw_130 (by decide) ?_
              have hv := hs.1
              have hs := hs.2
              refine wp_iast (σ_isH4 h0) (lt_isH4 h0) hv dX3_draw_137 (fun M35 eM35 => ?_)
              have hs := hs M35 eM35
              refine wp_aload_n 0 dX3_draw_138 rfl ?_
              refine wp_get (v := .ref (r0 + 5)) dX3_draw_139 (σ_isH h0) (lt_isH h0) rfl in_X3_draw_X3 9 (by decide) fl_X3_draw_24 rfl rfl ?_
              refine wp_iload_n 1 dX3_draw_142 rfl ?_
              refine wp_aload_n 0 dX3_draw_143 rfl ?_
              refine wp_get (v := .int (M35 r0 1)) dX3_draw_144 (σ_isH h0) (lt_isH h0) rfl in_X3_draw_X3 1 (by decide) fl_X3_draw_65 rfl rfl ?_
              have hv := hs.1
              have hs := hs.2
              refine wp_iast (σ_isH5 h0) (lt_isH5 h0) hv dX3_draw_147 (fun M36 eM36 => ?_)
              have hs := hs M36 eM36
              refine wp_aload_n 0 dX3_draw_148 rfl ?_
              refine wp_get (v := .ref (r0 + 6)) dX3_draw_149 (σ_isH h0) (lt_isH h0) rfl in_X3_draw_X3 10 (by decide) fl_X3_draw_27 rfl rfl ?_
              refine wp_iload_n 1 dX3_draw_152 rfl ?_
              refine wp_aload_n 0 dX3_draw_153 rfl ?_
              refine wp_get (v := .int (M36 r0 2)) dX3_draw_154 (σ_isH h0) (lt_isH h0) rfl in_X3_draw_X3 2 (by decide) fl_X3_draw_68 rfl rfl ?_
              have hv := hs.1
              have hs := hs.2
              refine wp_iast (σ_isH6 h0) (lt_isH6 h0) hv dX3_draw_157 (fun M37 eM37 => ?_)
              have hs := hs M37 eM37
              exact wp_return rfl dX3_draw_158 (hQ _ hs)
          · have hs := hs.2 c29
            refine wp_aload_n 0 dX3_draw_106 rfl ?_
            refine wp_get (v := .int (M28 r0 2)) dX3_draw_107 (σ_isH h0) (lt_isH h0) rfl in_X3_draw_X3 2 (by decide) fl_X3_draw_68 rfl rfl ?_
            refine wp_goto (tgt := 115) dX3_draw_110 (by decide) ?_
            have hv := hs.1
            have hs := hs.2
            refine wp_iast (σ_isH3 h0) (lt_isH3 h0) hv dX3_draw_115 (fun M38 eM38 => ?_)
            have hs := hs M38 eM38
            refine wp_aload_n 0 dX3_draw_116 rfl ?_
            refine wp_get (v := .ref (r0 + 4)) dX3_draw_117 (σ_isH h0) (lt_isH h0) rfl in_X3_draw_X3 8 (by decide) fl_X3_draw_21 rfl rfl ?_
            refine wp_iload_n 1 dX3_draw_120 rfl ?_
            refine wp_aload_n 0 dX3_draw_121 rfl ?_
            refine wp_get (v := .int (M38 r0 4)) dX3_draw_122 (σ_isH h0) (lt_isH h0) rfl in_X3_draw_X3 4 (by decide) fl_X3_draw_74 rfl rfl ?_
            refine wp_if_ge (tgt := 133) dX3_draw_125 (by decide) (fun c39 => ?_) (fun c39 => ?_)
            · have hs := hs.1 c39
              refine wp_aload_n 0 dX3_draw_133 rfl ?_
              refine wp_get (v := .int (M38 r0 2)) dX3_draw_134 (σ_isH h0) (lt_isH h0) rfl in_X3_draw_X3 2 (by decide) fl_X3_draw_68 rfl rfl ?_
              have hv := hs.1
              have hs := hs.2
              refine wp_iast (σ_isH4 h0) (lt_isH4 h0) hv dX3_draw_137 (fun M40 eM40 => ?_)
              have hs := hs M40 eM40
              refine wp_aload_n 0 dX3_draw_138 rfl ?_
              refine wp_get (v := .ref (r0 + 5)) dX3_draw_139 (σ_isH h0) (lt_isH h0) rfl in_X3_draw_X3 9 (by decide) fl_X3_draw_24 rfl rfl ?_
              refine wp_iload_n 1 dX3_draw_142 rfl ?_
              refine wp_aload_n 0 dX3_draw_143 rfl ?_
              refine wp_get (v := .int (M40 r0 1)) dX3_draw_144 (σ_isH h0) (lt_isH h0) rfl in_X3_draw_X3 1 (by decide) fl_X3_draw_65 rfl rfl ?_
              have hv := hs.1
              have hs := hs.2
              refine wp_iast (σ_isH5 h0) (lt_isH5 h0) hv dX3_draw_147 (fun M41 eM41 => ?_)
              have hs := hs M41 eM41
              refine wp_aload_n 0 dX3_draw_148 rfl ?_
              refine wp_get (v := .ref (r0 + 6)) dX3_draw_149 (σ_isH h0) (lt_isH h0) rfl in_X3_draw_X3 10 (by decide) fl_X3_draw_27 rfl rfl ?_
              refine wp_iload_n 1 dX3_draw_152 rfl ?_
              refine wp_aload_n 0 dX3_draw_153 rfl ?_
              refine wp_get (v := .int (M41 r0 2)) dX3_draw_154 (σ_isH h0) (lt_isH h0) rfl in_X3_draw_X3 2 (by decide) fl_X3_draw_68 rfl rfl ?_
              have hv := hs.1
              have hs := hs.2
              refine wp_iast (σ_isH6 h0) (lt_isH6 h0) hv dX3_draw_157 (fun M42 eM42 => ?_)
              have hs := hs M42 eM42
              exact wp_return rfl dX3_draw_158 (hQ _ hs)
            · have hs := hs.2 c39
              refine wp_iload 4 dX3_draw_128 rfl ?_
              refine wp_goto (tgt := 137) dX3_draw_130 (by decide) ?_
              have hv := hs.1
              have hs := hs.2
              refine wp_iast (σ_isH4 h0) (lt_isH4 h0) hv dX3_draw_137 (fun M43 eM43 => ?_)
              have hs := hs M43 eM43
              refine wp_aload_n 0 dX3_draw_138 rfl ?_
              refine wp_get (v := .ref (r0 + 5)) dX3_draw_139 (σ_isH h0) (lt_isH h0) rfl in_X3_draw_X3 9 (by decide) fl_X3_draw_24 rfl rfl ?_
              refine wp_iload_n 1 dX3_draw_142 rfl ?_
              refine wp_aload_n 0 dX3_draw_143 rfl ?_
              refine wp_get (v := .int (M43 r0 1)) dX3_draw_144 (σ_isH h0) (lt_isH h0) rfl in_X3_draw_X3 1 (by decide) fl_X3_draw_65 rfl rfl ?_
              have hv := hs.1
              have hs := hs.2
              refine wp_iast (σ_isH5 h0) (lt_isH5 h0) hv dX3_draw_147 (fun M44 eM44 => ?_)
              have hs := hs M44 eM44
              refine wp_aload_n 0 dX3_draw_148 rfl ?_
              refine wp_get (v := .ref (r0 + 6)) dX3_draw_149 (σ_isH h0) (lt_isH h0) rfl in_X3_draw_X3 10 (by decide) fl_X3_draw_27 rfl rfl ?_
              refine wp_iload_n 1 dX3_draw_152 rfl ?_
              refine wp_aload_n 0 dX3_draw_153 rfl ?_
              refine wp_get (v := .int (M44 r0 2)) dX3_draw_154 (σ_isH h0) (lt_isH h0) rfl in_X3_draw_X3 2 (by decide) fl_X3_draw_68 rfl rfl ?_
              have hv := hs.1
              have hs := hs.2
              refine wp_iast (σ_isH6 h0) (lt_isH6 h0) hv dX3_draw_157 (fun M45 eM45 => ?_)
              have hs := hs M45 eM45
              exact wp_return rfl dX3_draw_158 (hQ _ hs)
      · have hs := hs.2 c7
        refine wp_aload_n 0 dX3_draw_64 rfl ?_
        refine wp_get (v := .int (M6 r0 1)) dX3_draw_65 (σ_isH h0) (lt_isH h0) rfl in_X3_draw_X3 1 (by decide) fl_X3_draw_65 rfl rfl ?_
        refine wp_goto (tgt := 72) dX3_draw_68 (by decide) ?_
        have hv := hs.1
        have hs := hs.2
        refine wp_iast (σ_isH1 h0) (lt_isH1 h0) hv dX3_draw_72 (fun M46 eM46 => ?_)
        have hs := hs M46 eM46
        refine wp_aload_n 0 dX3_draw_73 rfl ?_
        refine wp_get (v := .ref (r0 + 2)) dX3_draw_74 (σ_isH h0) (lt_isH h0) rfl in_X3_draw_X3 6 (by decide) fl_X3_draw_15 rfl rfl ?_
        refine wp_iload_n 1 dX3_draw_77 rfl ?_
        refine wp_aload_n 0 dX3_draw_78 rfl ?_
        refine wp_get (v := .int (M46 r0 3)) dX3_draw_79 (σ_isH h0) (lt_isH h0) rfl in_X3_draw_X3 3 (by decide) fl_X3_draw_71 rfl rfl ?_
        refine wp_if_ge (tgt := 89) dX3_draw_82 (by decide) (fun c47 => ?_) (fun c47 => ?_)
        · have hs := hs.1 c47
          refine wp_aload_n 0 dX3_draw_89 rfl ?_
          refine wp_get (v := .int (M46 r0 1)) dX3_draw_90 (σ_isH h0) (lt_isH h0) rfl in_X3_draw_X3 1 (by decide) fl_X3_draw_65 rfl rfl ?_
          have hv := hs.1
          have hs := hs.2
          refine wp_iast (σ_isH2 h0) (lt_isH2 h0) hv dX3_draw_93 (fun M48 eM48 => ?_)
          have hs := hs M48 eM48
          refine wp_aload_n 0 dX3_draw_94 rfl ?_
          refine wp_get (v := .ref (r0 + 3)) dX3_draw_95 (σ_isH h0) (lt_isH h0) rfl in_X3_draw_X3 7 (by decide) fl_X3_draw_18 rfl rfl ?_
          refine wp_iload_n 1 dX3_draw_98 rfl ?_
          refine wp_aload_n 0 dX3_draw_99 rfl ?_
          refine wp_get (v := .int (M48 r0 4)) dX3_draw_100 (σ_isH h0) (lt_isH h0) rfl in_X3_draw_X3 4 (by decide) fl_X3_draw_74 rfl rfl ?_
          refine wp_if_ge (tgt := 113) dX3_draw_103 (by decide) (fun c49 => ?_) (fun c49 => ?_)
          · have hs := hs.1 c49
            refine wp_iload 4 dX3_draw_113 rfl ?_
            have hv := hs.1
            have hs := hs.2
            refine wp_iast (σ_isH3 h0) (lt_isH3 h0) hv dX3_draw_115 (fun M50 eM50 => ?_)
            have hs := hs M50 eM50
            refine wp_aload_n 0 dX3_draw_116 rfl ?_
            refine wp_get (v := .ref (r0 + 4)) dX3_draw_117 (σ_isH h0) (lt_isH h0) rfl in_X3_draw_X3 8 (by decide) fl_X3_draw_21 rfl rfl ?_
            refine wp_iload_n 1 dX3_draw_120 rfl ?_
            refine wp_aload_n 0 dX3_draw_121 rfl ?_
            refine wp_get (v := .int (M50 r0 4)) dX3_draw_122 (σ_isH h0) (lt_isH h0) rfl in_X3_draw_X3 4 (by decide) fl_X3_draw_74 rfl rfl ?_
            refine wp_if_ge (tgt := 133) dX3_draw_125 (by decide) (fun c51 => ?_) (fun c51 => ?_)
            · have hs := hs.1 c51
              refine wp_aload_n 0 dX3_draw_133 rfl ?_
              refine wp_get (v := .int (M50 r0 2)) dX3_draw_134 (σ_isH h0) (lt_isH h0) rfl in_X3_draw_X3 2 (by decide) fl_X3_draw_68 rfl rfl ?_
              have hv := hs.1
              have hs := hs.2
              refine wp_iast (σ_isH4 h0) (lt_isH4 h0) hv dX3_draw_137 (fun M52 eM52 => ?_)
              have hs := hs M52 eM52
              refine wp_aload_n 0 dX3_draw_138 rfl ?_
              refine wp_get (v := .ref (r0 + 5)) dX3_draw_139 (σ_isH h0) (lt_isH h0) rfl in_X3_draw_X3 9 (by decide) fl_X3_draw_24 rfl rfl ?_
              refine wp_iload_n 1 dX3_draw_142 rfl ?_
              refine wp_aload_n 0 dX3_draw_143 rfl ?_
              refine wp_get (v := .int (M52 r0 1)) dX3_draw_144 (σ_isH h0) (lt_isH h0) rfl in_X3_draw_X3 1 (by decide) fl_X3_draw_65 rfl rfl ?_
              have hv := hs.1
              have hs := hs.2
              refine wp_iast (σ_isH5 h0) (lt_isH5 h0) hv dX3_draw_147 (fun M53 eM53 => ?_)
              have hs := hs M53 eM53
              refine wp_aload_n 0 dX3_draw_148 rfl ?_
              refine wp_get (v := .ref (r0 + 6)) dX3_draw_149 (σ_isH h0) (lt_isH h0) rfl in_X3_draw_X3 10 (by decide) fl_X3_draw_27 rfl rfl ?_
              refine wp_iload_n 1 dX3_draw_152 rfl ?_
              refine wp_aload_n 0 dX3_draw_153 rfl ?_
              refine wp_get (v := .int (M53 r0 2)) dX3_draw_154 (σ_isH h0) (lt_isH h0) rfl in_X3_draw_X3 2 (by decide) fl_X3_draw_68 rfl rfl ?_
              have hv := hs.1
              have hs := hs.2
              refine wp_iast (σ_isH6 h0) (lt_isH6 h0) hv dX3_draw_157 (fun M54 eM54 => ?_)
              have hs := hs M54 eM54
              exact wp_return rfl dX3_draw_158 (hQ _ hs)
            · have hs := hs.2 c51
              refine wp_iload 4 dX3_draw_128 rfl ?_
              refine wp_goto (tgt := 137) dX3_draw_130 (by decide) ?_
              have hv := hs.1
              have hs := hs.2
              refine wp_iast (σ_isH4 h0) (lt_isH4 h0) hv dX3_draw_137 (fun M55 eM55 => ?_)
              have hs := hs M55 eM55
              refine wp_aload_n 0 dX3_draw_138 rfl ?_
              refine wp_get (v := .ref (r0 + 5)) dX3_draw_139 (σ_isH h0) (lt_isH h0) rfl in_X3_draw_X3 9 (by decide) fl_X3_draw_24 rfl rfl ?_
              refine wp_iload_n 1 dX3_draw_142 rfl ?_
              refine wp_aload_n 0 dX3_draw_143 rfl ?_
              refine wp_get (v := .int (M55 r0 1)) dX3_draw_144 (σ_isH h0) (lt_isH h0) rfl in_X3_draw_X3 1 (by decide) fl_X3_draw_65 rfl rfl ?_
              have hv := hs.1
              have hs := hs.2
              refine wp_iast (σ_isH5 h0) (lt_isH5 h0) hv dX3_draw_147 (fun M56 eM56 => ?_)
              have hs := hs M56 eM56
              refine wp_aload_n 0 dX3_draw_148 rfl ?_
              refine wp_get (v := .ref (r0 + 6)) dX3_draw_149 (σ_isH h0) (lt_isH h0) rfl in_X3_draw_X3 10 (by decide) fl_X3_draw_27 rfl rfl ?_
              refine wp_iload_n 1 dX3_draw_152 rfl ?_
              refine wp_aload_n 0 dX3_draw_153 rfl ?_
              refine wp_get (v := .int (M56 r0 2)) dX3_draw_154 (σ_isH h0) (lt_isH h0) rfl in_X3_draw_X3 2 (by decide) fl_X3_draw_68 rfl rfl ?_
              have hv := hs.1
              have hs := hs.2
              refine wp_iast (σ_isH6 h0) (lt_isH6 h0) hv dX3_draw_157 (fun M57 eM57 => ?_)
              have hs := hs M57 eM57
              exact wp_return rfl dX3_draw_158 (hQ _ hs)
          · have hs := hs.2 c49
            refine wp_aload_n 0 dX3_draw_106 rfl ?_
            refine wp_get (v := .int (M48 r0 2)) dX3_draw_107 (σ_isH h0) (lt_isH h0) rfl in_X3_draw_X3 2 (by decide) fl_X3_draw_68 rfl rfl ?_
            refine wp_goto (tgt := 115) dX3_draw_110 (by decide) ?_
            have hv := hs.1
            have hs := hs.2
            refine wp_iast (σ_isH3 h0) (lt_isH3 h0) hv dX3_draw_115 (fun M58 eM58 => ?_)
            have hs := hs M58 eM58
            refine wp_aload_n 0 dX3_draw_116 rfl ?_
            refine wp_get (v := .ref (r0 + 4)) dX3_draw_117 (σ_isH h0) (lt_isH h0) rfl in_X3_draw_X3 8 (by decide) fl_X3_draw_21 rfl rfl ?_
            refine wp_iload_n 1 dX3_draw_120 rfl ?_
            refine wp_aload_n 0 dX3_draw_121 rfl ?_
            refine wp_get (v := .int (M58 r0 4)) dX3_draw_122 (σ_isH h0) (lt_isH h0) rfl in_X3_draw_X3 4 (by decide) fl_X3_draw_74 rfl rfl ?_
            refine wp_if_ge (tgt := 133) dX3_draw_125 (by decide) (fun c59 => ?_) (fun c59 => ?_)
            · have hs := hs.1 c59
              refine wp_aload_n 0 dX3_draw_133 rfl ?_
              refine wp_get (v := .int (M58 r0 2)) dX3_draw_134 (σ_isH h0) (lt_isH h0) rfl in_X3_draw_X3 2 (by decide) fl_X3_draw_68 rfl rfl ?_
              have hv := hs.1
              have hs := hs.2
              refine wp_iast (σ_isH4 h0) (lt_isH4 h0) hv dX3_draw_137 (fun M60 eM60 => ?_)
              have hs := hs M60 eM60
              refine wp_aload_n 0 dX3_draw_138 rfl ?_
              refine wp_get (v := .ref (r0 + 5)) dX3_draw_139 (σ_isH h0) (lt_isH h0) rfl in_X3_draw_X3 9 (by decide) fl_X3_draw_24 rfl rfl ?_
              refine wp_iload_n 1 dX3_draw_142 rfl ?_
              refine wp_aload_n 0 dX3_draw_143 rfl ?_
              refine wp_get (v := .int (M60 r0 1)) dX3_draw_144 (σ_isH h0) (lt_isH h0) rfl in_X3_draw_X3 1 (by decide) fl_X3_draw_65 rfl rfl ?_
              have hv := hs.1
              have hs := hs.2
              refine wp_iast (σ_isH5 h0) (lt_isH5 h0) hv dX3_draw_147 (fun M61 eM61 => ?_)
              have hs := hs M61 eM61
              refine wp_aload_n 0 dX3_draw_148 rfl ?_
              refine wp_get (v := .ref (r0 + 6)) dX3_draw_149 (σ_isH h0) (lt_isH h0) rfl in_X3_draw_X3 10 (by decide) fl_X3_draw_27 rfl rfl ?_
              refine wp_iload_n 1 dX3_draw_152 rfl ?_
              refine wp_aload_n 0 dX3_draw_153 rfl ?_
              refine wp_get (v := .int (M61 r0 2)) dX3_draw_154 (σ_isH h0) (lt_isH h0) rfl in_X3_draw_X3 2 (by decide) fl_X3_draw_68 rfl rfl ?_
              have hv := hs.1
              have hs := hs.2
              refine wp_iast (σ_isH6 h0) (lt_isH6 h0) hv dX3_draw_157 (fun M62 eM62 => ?_)
              have hs := hs M62 eM62
              exact wp_return rfl dX3_draw_158 (hQ _ hs)
            · have hs := hs.2 c59
              refine wp_iload 4 dX3_draw_128 rfl ?_
              refine wp_goto (tgt := 137) dX3_draw_130 (by decide) ?_
              have hv := hs.1
              have hs := hs.2
              refine wp_iast (σ_isH4 h0) (lt_isH4 h0) hv dX3_draw_137 (fun M63 eM63 => ?_)
              have hs := hs M63 eM63
              refine wp_aload_n 0 dX3_draw_138 rfl ?_
              refine wp_get (v := .ref (r0 + 5)) dX3_draw_139 (σ_isH h0) (lt_isH h0) rfl in_X3_draw_X3 9 (by decide) fl_X3_draw_24 rfl rfl ?_
              refine wp_iload_n 1 dX3_draw_142 rfl ?_
              refine wp_aload_n 0 dX3_draw_143 rfl ?_
              refine wp_get (v := .int (M63 r0 1)) dX3_draw_144 (σ_isH h0) (lt_isH h0) rfl in_X3_draw_X3 1 (by decide) fl_X3_draw_65 rfl rfl ?_
              have hv := hs.1
              have hs := hs.2
              refine wp_iast (σ_isH5 h0) (lt_isH5 h0) hv dX3_draw_147 (fun M64 eM64 => ?_)
              have hs := hs M64 eM64
              refine wp_aload_n 0 dX3_draw_148 rfl ?_
              refine wp_get (v := .ref (r0 + 6)) dX3_draw_149 (σ_isH h0) (lt_isH h0) rfl in_X3_draw_X3 10 (by decide) fl_X3_draw_27 rfl rfl ?_
              refine wp_iload_n 1 dX3_draw_152 rfl ?_
              refine wp_aload_n 0 dX3_draw_153 rfl ?_
              refine wp_get (v := .int (M64 r0 2)) dX3_draw_154 (σ_isH h0) (lt_isH h0) rfl in_X3_draw_X3 2 (by decide) fl_X3_draw_68 rfl rfl ?_
              have hv := hs.1
              have hs := hs.2
              refine wp_iast (σ_isH6 h0) (lt_isH6 h0) hv dX3_draw_157 (fun M65 eM65 => ?_)
              have hs := hs M65 eM65
              exact wp_return rfl dX3_draw_158 (hQ _ hs)
        · have hs := hs.2 c47
          refine wp_iload_n 3 dX3_draw_85 rfl ?_
          refine wp_goto (tgt := 93) dX3_draw_86 (by decide) ?_
          have hv := hs.1
          have hs := hs.2
          refine wp_iast (σ_isH2 h0) (lt_isH2 h0) hv dX3_draw_93 (fun M66 eM66 => ?_)
          have hs := hs M66 eM66
          refine wp_aload_n 0 dX3_draw_94 rfl ?_
          refine wp_get (v := .ref (r0 + 3)) dX3_draw_95 (σ_isH h0) (lt_isH h0) rfl in_X3_draw_X3 7 (by decide) fl_X3_draw_18 rfl rfl ?_
          refine wp_iload_n 1 dX3_draw_98 rfl ?_
          refine wp_aload_n 0 dX3_draw_99 rfl ?_
          refine wp_get (v := .int (M66 r0 4)) dX3_draw_100 (σ_isH h0) (lt_isH h0) rfl in_X3_draw_X3 4 (by decide) fl_X3_draw_74 rfl rfl ?_
          refine wp_if_ge (tgt := 113) dX3_draw_103 (by decide) (fun c67 => ?_) (fun c67 => ?_)
          · have hs := hs.1 c67
            refine wp_iload 4 dX3_draw_113 rfl ?_
            have hv := hs.1
            have hs := hs.2
            refine wp_iast (σ_isH3 h0) (lt_isH3 h0) hv dX3_draw_115 (fun M68 eM68 => ?_)
            have hs := hs M68 eM68
            refine wp_aload_n 0 dX3_draw_116 rfl ?_
            refine wp_get (v := .ref (r0 + 4)) dX3_draw_117 (σ_isH h0) (lt_isH h0) rfl in_X3_draw_X3 8 (by decide) fl_X3_draw_21 rfl rfl ?_
            refine wp_iload_n 1 dX3_draw_120 rfl ?_
            refine wp_aload_n 0 dX3_draw_121 rfl ?_
            refine wp_get (v := .int (M68 r0 4)) dX3_draw_122 (σ_isH h0) (lt_isH h0) rfl in_X3_draw_X3 4 (by decide) fl_X3_draw_74 rfl rfl ?_
            refine wp_if_ge (tgt := 133) dX3_draw_125 (by decide) (fun c69 => ?_) (fun c69 => ?_)
            · have hs := hs.1 c69
              refine wp_aload_n 0 dX3_draw_133 rfl ?_
              refine wp_get (v := .int (M68 r0 2)) dX3_draw_134 (σ_isH h0) (lt_isH h0) rfl in_X3_draw_X3 2 (by decide) fl_X3_draw_68 rfl rfl ?_
              have hv := hs.1
              have hs := hs.2
              refine wp_iast (σ_isH4 h0) (lt_isH4 h0) hv dX3_draw_137 (fun M70 eM70 => ?_)
              have hs := hs M70 eM70
              refine wp_aload_n 0 dX3_draw_138 rfl ?_
              refine wp_get (v := .ref (r0 + 5)) dX3_draw_139 (σ_isH h0) (lt_isH h0) rfl in_X3_draw_X3 9 (by decide) fl_X3_draw_24 rfl rfl ?_
              refine wp_iload_n 1 dX3_draw_142 rfl ?_
              refine wp_aload_n 0 dX3_draw_143 rfl ?_
              refine wp_get (v := .int (M70 r0 1)) dX3_draw_144 (σ_isH h0) (lt_isH h0) rfl in_X3_draw_X3 1 (by decide) fl_X3_draw_65 rfl rfl ?_
              have hv := hs.1
              have hs := hs.2
              refine wp_iast (σ_isH5 h0) (lt_isH5 h0) hv dX3_draw_147 (fun M71 eM71 => ?_)
              have hs := hs M71 eM71
              refine wp_aload_n 0 dX3_draw_148 rfl ?_
              refine wp_get (v := .ref (r0 + 6)) dX3_draw_149 (σ_isH h0) (lt_isH h0) rfl in_X3_draw_X3 10 (by decide) fl_X3_draw_27 rfl rfl ?_
              refine wp_iload_n 1 dX3_draw_152 rfl ?_
              refine wp_aload_n 0 dX3_draw_153 rfl ?_
              refine wp_get (v := .int (M71 r0 2)) dX3_draw_154 (σ_isH h0) (lt_isH h0) rfl in_X3_draw_X3 2 (by decide) fl_X3_draw_68 rfl rfl ?_
              have hv := hs.1
              have hs := hs.2
              refine wp_iast (σ_isH6 h0) (lt_isH6 h0) hv dX3_draw_157 (fun M72 eM72 => ?_)
              have hs := hs M72 eM72
              exact wp_return rfl dX3_draw_158 (hQ _ hs)
            · have hs := hs.2 c69
              refine wp_iload 4 dX3_draw_128 rfl ?_
              refine wp_goto (tgt := 137) dX3_draw_130 (by decide) ?_
              have hv := hs.1
              have hs := hs.2
              refine wp_iast (σ_isH4 h0) (lt_isH4 h0) hv dX3_draw_137 (fun M73 eM73 => ?_)
              have hs := hs M73 eM73
              refine wp_aload_n 0 dX3_draw_138 rfl ?_
              refine wp_get (v := .ref (r0 + 5)) dX3_draw_139 (σ_isH h0) (lt_isH h0) rfl in_X3_draw_X3 9 (by decide) fl_X3_draw_24 rfl rfl ?_
              refine wp_iload_n 1 dX3_draw_142 rfl ?_
              refine wp_aload_n 0 dX3_draw_143 rfl ?_
              refine wp_get (v := .int (M73 r0 1)) dX3_draw_144 (σ_isH h0) (lt_isH h0) rfl in_X3_draw_X3 1 (by decide) fl_X3_draw_65 rfl rfl ?_
              have hv := hs.1
              have hs := hs.2
              refine wp_iast (σ_isH5 h0) (lt_isH5 h0) hv dX3_draw_147 (fun M74 eM74 => ?_)
              have hs := hs M74 eM74
              refine wp_aload_n 0 dX3_draw_148 rfl ?_
              refine wp_get (v := .ref (r0 + 6)) dX3_draw_149 (σ_isH h0) (lt_isH h0) rfl in_X3_draw_X3 10 (by decide) fl_X3_draw_27 rfl rfl ?_
              refine wp_iload_n 1 dX3_draw_152 rfl ?_
              refine wp_aload_n 0 dX3_draw_153 rfl ?_
              refine wp_get (v := .int (M74 r0 2)) dX3_draw_154 (σ_isH h0) (lt_isH h0) rfl in_X3_draw_X3 2 (by decide) fl_X3_draw_68 rfl rfl ?_
              have hv := hs.1
              have hs := hs.2
              refine wp_iast (σ_isH6 h0) (lt_isH6 h0) hv dX3_draw_157 (fun M75 eM75 => ?_)
              have hs := hs M75 eM75
              exact wp_return rfl dX3_draw_158 (hQ _ hs)
          · have hs := hs.2 c67
            refine wp_aload_n 0 dX3_draw_106 rfl ?_
            refine wp_get (v := .int (M66 r0 2)) dX3_draw_107 (σ_isH h0) (lt_isH h0) rfl in_X3_draw_X3 2 (by decide) fl_X3_draw_68 rfl rfl ?_
            refine wp_goto (tgt := 115) dX3_draw_110 (by decide) ?_
            have hv := hs.1
            have hs := hs.2
            refine wp_iast (σ_isH3 h0) (lt_isH3 h0) hv dX3_draw_115 (fun M76 eM76 => ?_)
            have hs := hs M76 eM76
            refine wp_aload_n 0 dX3_draw_116 rfl ?_
            refine wp_get (v := .ref (r0 + 4)) dX3_draw_117 (σ_isH h0) (lt_isH h0) rfl in_X3_draw_X3 8 (by decide) fl_X3_draw_21 rfl rfl ?_
            refine wp_iload_n 1 dX3_draw_120 rfl ?_
            refine wp_aload_n 0 dX3_draw_121 rfl ?_
            refine wp_get (v := .int (M76 r0 4)) dX3_draw_122 (σ_isH h0) (lt_isH h0) rfl in_X3_draw_X3 4 (by decide) fl_X3_draw_74 rfl rfl ?_
            refine wp_if_ge (tgt := 133) dX3_draw_125 (by decide) (fun c77 => ?_) (fun c77 => ?_)
            · have hs := hs.1 c77
              refine wp_aload_n 0 dX3_draw_133 rfl ?_
              refine wp_get (v := .int (M76 r0 2)) dX3_draw_134 (σ_isH h0) (lt_isH h0) rfl in_X3_draw_X3 2 (by decide) fl_X3_draw_68 rfl rfl ?_
              have hv := hs.1
              have hs := hs.2
              refine wp_iast (σ_isH4 h0) (lt_isH4 h0) hv dX3_draw_137 (fun M78 eM78 => ?_)
              have hs := hs M78 eM78
              refine wp_aload_n 0 dX3_draw_138 rfl ?_
              refine wp_get (v := .ref (r0 + 5)) dX3_draw_139 (σ_isH h0) (lt_isH h0) rfl in_X3_draw_X3 9 (by decide) fl_X3_draw_24 rfl rfl ?_
              refine wp_iload_n 1 dX3_draw_142 rfl ?_
              refine wp_aload_n 0 dX3_draw_143 rfl ?_
              refine wp_get (v := .int (M78 r0 1)) dX3_draw_144 (σ_isH h0) (lt_isH h0) rfl in_X3_draw_X3 1 (by decide) fl_X3_draw_65 rfl rfl ?_
              have hv := hs.1
              have hs := hs.2
              refine wp_iast (σ_isH5 h0) (lt_isH5 h0) hv dX3_draw_147 (fun M79 eM79 => ?_)
              have hs := hs M79 eM79
              refine wp_aload_n 0 dX3_draw_148 rfl ?_
              refine wp_get (v := .ref (r0 + 6)) dX3_draw_149 (σ_isH h0) (lt_isH h0) rfl in_X3_draw_X3 10 (by decide) fl_X3_draw_27 rfl rfl ?_
              refine wp_iload_n 1 dX3_draw_152 rfl ?_
              refine wp_aload_n 0 dX3_draw_153 rfl ?_
              refine wp_get (v := .int (M79 r0 2)) dX3_draw_154 (σ_isH h0) (lt_isH h0) rfl in_X3_draw_X3 2 (by decide) fl_X3_draw_68 rfl rfl ?_
              have hv := hs.1
              have hs := hs.2
              refine wp_iast (σ_isH6 h0) (lt_isH6 h0) hv dX3_draw_157 (fun M80 eM80 => ?_)
              have hs := hs M80 eM80
              exact wp_return rfl dX3_draw_158 (hQ _ hs)
            · have hs := hs.2 c77
              refine wp_iload 4 dX3_draw_128 rfl ?_
              refine wp_goto (tgt := 137) dX3_draw_130 (by decide) ?_
              have hv := hs.1
              have hs := hs.2
              refine wp_iast (σ_isH4 h0) (lt_isH4 h0) hv dX3_draw_137 (fun M81 eM81 => ?_)
              have hs := hs M81 eM81
              refine wp_aload_n 0 dX3_draw_138 rfl ?_
              refine wp_get (v := .ref (r0 + 5)) dX3_draw_139 (σ_isH h0) (lt_isH h0) rfl in_X3_draw_X3 9 (by decide) fl_X3_draw_24 rfl rfl ?_
              refine wp_iload_n 1 dX3_draw_142 rfl ?_
              refine wp_aload_n 0 dX3_draw_143 rfl ?_
              refine wp_get (v := .int (M81 r0 1)) dX3_draw_144 (σ_isH h0) (lt_isH h0) rfl in_X3_draw_X3 1 (by decide) fl_X3_draw_65 rfl rfl ?_
              have hv := hs.1
              have hs := hs.2
              refine wp_iast (σ_isH5 h0) (lt_isH5 h0) hv dX3_draw_147 (fun M82 eM82 => ?_)
              have hs := hs M82 eM82
              refine wp_aload_n 0 dX3_draw_148 rfl ?_
              refine wp_get (v := .ref (r0 + 6)) dX3_draw_149 (σ_isH h0) (lt_isH h0) rfl in_X3_draw_X3 10 (by decide) fl_X3_draw_27 rfl rfl ?_
              refine wp_iload_n 1 dX3_draw_152 rfl ?_
              refine wp_aload_n 0 dX3_draw_153 rfl ?_
              refine wp_get (v := .int (M82 r0 2)) dX3_draw_154 (σ_isH h0) (lt_isH h0) rfl in_X3_draw_X3 2 (by decide) fl_X3_draw_68 rfl rfl ?_
              have hv := hs.1
              have hs := hs.2
              refine wp_iast (σ_isH6 h0) (lt_isH6 h0) hv dX3_draw_157 (fun M83 eM83 => ?_)
              have hs := hs M83 eM83
              exact wp_return rfl dX3_draw_158 (hQ _ hs)
    · have hs := hs.2 c2
      exact wp_return rfl dX3_draw_10 (hQ _ hs)
abbrev iX3_startAtTool : MI := (cX3_startAtTool, 2, none, RX3, yX3_startAtTool, wsX3_startAtTool)
theorem hy_X3_startAtTool : yX3_startAtTool.cls = RX3 ∧ yX3_startAtTool.cls ≠ "java/lang/invoke/MethodHandle" ∧ yX3_startAtTool.cls ≠ "java/lang/invoke/VarHandle" ∧ (parseMethodDescriptor yX3_startAtTool.desc).map (fun d => d.parameters.length) = some 1 := by decide +kernel
theorem in_X3_startAtTool_X3 : ∀ w ∈ u_ws RX3 TX3 11, w ∈ wsX3_startAtTool := by decide +kernel
theorem fl_X3_startAtTool_65 : Cond.fieldLink RX3 65 (TX3 1).1 (TX3 1).2.1 (TX3 1).2.2.1 ∈ wsX3_startAtTool := by decide +kernel
theorem fl_X3_startAtTool_68 : Cond.fieldLink RX3 68 (TX3 2).1 (TX3 2).2.1 (TX3 2).2.2.1 ∈ wsX3_startAtTool := by decide +kernel
theorem fl_X3_startAtTool_71 : Cond.fieldLink RX3 71 (TX3 3).1 (TX3 3).2.1 (TX3 3).2.2.1 ∈ wsX3_startAtTool := by decide +kernel
theorem fl_X3_startAtTool_74 : Cond.fieldLink RX3 74 (TX3 4).1 (TX3 4).2.1 (TX3 4).2.2.1 ∈ wsX3_startAtTool := by decide +kernel
def w_X3_startAtTool (r0 : Nat) (a : Int32) (M : Nat → Nat → Int32) (Q : (Nat → Nat → Int32) → Prop) : Prop := ∀ M1 : Nat → Nat → Int32, M1 = um M r0 (upd (M r0) 1 (nI 0)) → ∀ M2 : Nat → Nat → Int32, M2 = um M1 r0 (upd (M1 r0) 2 (nI 0)) → ∀ M3 : Nat → Nat → Int32, M3 = um M2 r0 (upd (M2 r0) 3 a) → ∀ M4 : Nat → Nat → Int32, M4 = um M3 r0 (upd (M3 r0) 4 (nI 0)) → Q M4
set_option maxHeartbeats 4000000 in
set_option maxRecDepth 100000 in
theorem mw_X3_startAtTool {E : EN} {r0 : Nat} {a : Int32} {M : Nat → Nat → Int32} {Q : (Nat → Nat → Int32) → Prop} (h0 : isH r0) (hs : w_X3_startAtTool r0 a M Q) : MW E iX3_startAtTool 1 0 0 false [.ref r0, .int a] σC 46 M (qV σC 46 Q) := by
  refine mw_intro (ls := [(0, .ref r0), (1, .int a)]) rfl (by decide +kernel) rfl rfl (Nat.le_of_ble_eq_true rfl) ?_
  have hQ : ∀ M, Q M → (qV σC 46 Q) none σC 46 M := fun _ h => ⟨rfl, rfl, rfl, h⟩
  generalize (qV σC 46 Q) = Qf at hQ ⊢
  unfold w_X3_startAtTool at hs
  refine wp_aload_n 0 dX3_startAtTool_0 rfl ?_
  refine wp_iconst (v := (nI 0)) dX3_startAtTool_1 (by decide) ?_
  refine wp_put (ty := .int) tyX3 tyX3_ok nmX3 (σ_isH h0) (lt_isH h0) rfl in_X3_startAtTool_X3 1 (by decide) fl_X3_startAtTool_65 rfl rfl (by decide +kernel) rfl rfl dX3_startAtTool_2 (fun M1 eM1 => ?_)
  have hs := hs M1 eM1
  refine wp_aload_n 0 dX3_startAtTool_5 rfl ?_
  refine wp_iconst (v := (nI 0)) dX3_startAtTool_6 (by decide) ?_
  refine wp_put (ty := .int) tyX3 tyX3_ok nmX3 (σ_isH h0) (lt_isH h0) rfl in_X3_startAtTool_X3 2 (by decide) fl_X3_startAtTool_68 rfl rfl (by decide +kernel) rfl rfl dX3_startAtTool_7 (fun M2 eM2 => ?_)
  have hs := hs M2 eM2
  refine wp_aload_n 0 dX3_startAtTool_10 rfl ?_
  refine wp_iload_n 1 dX3_startAtTool_11 rfl ?_
  refine wp_put (ty := .int) tyX3 tyX3_ok nmX3 (σ_isH h0) (lt_isH h0) rfl in_X3_startAtTool_X3 3 (by decide) fl_X3_startAtTool_71 rfl rfl (by decide +kernel) rfl rfl dX3_startAtTool_12 (fun M3 eM3 => ?_)
  have hs := hs M3 eM3
  refine wp_aload_n 0 dX3_startAtTool_15 rfl ?_
  refine wp_iconst (v := (nI 0)) dX3_startAtTool_16 (by decide) ?_
  refine wp_put (ty := .int) tyX3 tyX3_ok nmX3 (σ_isH h0) (lt_isH h0) rfl in_X3_startAtTool_X3 4 (by decide) fl_X3_startAtTool_74 rfl rfl (by decide +kernel) rfl rfl dX3_startAtTool_17 (fun M4 eM4 => ?_)
  have hs := hs M4 eM4
  exact wp_return rfl dX3_startAtTool_20 (hQ _ hs)
abbrev iX3_turnAt : MI := (cX3_turnAt, 5, none, RX3, yX3_turnAt, wsX3_turnAt)
theorem hy_X3_turnAt : yX3_turnAt.cls = RX3 ∧ yX3_turnAt.cls ≠ "java/lang/invoke/MethodHandle" ∧ yX3_turnAt.cls ≠ "java/lang/invoke/VarHandle" ∧ (parseMethodDescriptor yX3_turnAt.desc).map (fun d => d.parameters.length) = some 3 := by decide +kernel
theorem in_X3_turnAt_X3 : ∀ w ∈ u_ws RX3 TX3 11, w ∈ wsX3_turnAt := by decide +kernel
theorem fl_X3_turnAt_71 : Cond.fieldLink RX3 71 (TX3 3).1 (TX3 3).2.1 (TX3 3).2.2.1 ∈ wsX3_turnAt := by decide +kernel
theorem fl_X3_turnAt_74 : Cond.fieldLink RX3 74 (TX3 4).1 (TX3 4).2.1 (TX3 4).2.2.1 ∈ wsX3_turnAt := by decide +kernel
def w_X3_turnAt (r0 : Nat) (a : Int32) (b : Int32) (c : Int32) (M : Nat → Nat → Int32) (Q : (Nat → Nat → Int32) → Prop) : Prop := ((¬ ((b >>> (a &&& 31)) &&& (nI 1)) = 0 → ∀ y2 : Int32, y2 = (M r0 3) → ((c = 0 → ∀ M4 : Nat → Nat → Int32, M4 = um M r0 (upd (M r0) 3 (M r0 4)) → ((c = 0 → ∀ M6 : Nat → Nat → Int32, M6 = um M4 r0 (upd (M4 r0) 4 (-y2)) → Q M6) ∧ (¬ c = 0 → ∀ M7 : Nat → Nat → Int32, M7 = um M4 r0 (upd (M4 r0) 4 y2) → Q M7))) ∧ (¬ c = 0 → ∀ M8 : Nat → Nat → Int32, M8 = um M r0 (upd (M r0) 3 (-(M r0 4))) → ((c = 0 → ∀ M10 : Nat → Nat → Int32, M10 = um M8 r0 (upd (M8 r0) 4 (-y2)) → Q M10) ∧ (¬ c = 0 → ∀ M11 : Nat → Nat → Int32, M11 = um M8 r0 (upd (M8 r0) 4 y2) → Q M11))))) ∧ (((b >>> (a &&& 31)) &&& (nI 1)) = 0 → Q M))
set_option maxHeartbeats 4000000 in
set_option maxRecDepth 100000 in
theorem mw_X3_turnAt {E : EN} {r0 : Nat} {a : Int32} {b : Int32} {c : Int32} {M : Nat → Nat → Int32} {Q : (Nat → Nat → Int32) → Prop} (h0 : isH r0) (hs : w_X3_turnAt r0 a b c M Q) : MW E iX3_turnAt 1 0 0 false [.ref r0, .int a, .int b, .int c] σC 46 M (qV σC 46 Q) := by
  refine mw_intro (ls := [(0, .ref r0), (1, .int a), (2, .int b), (3, .int c)]) rfl (by decide +kernel) rfl rfl (Nat.le_of_ble_eq_true rfl) ?_
  have hQ : ∀ M, Q M → (qV σC 46 Q) none σC 46 M := fun _ h => ⟨rfl, rfl, rfl, h⟩
  generalize (qV σC 46 Q) = Qf at hQ ⊢
  unfold w_X3_turnAt at hs
  refine wp_iload_n 2 dX3_turnAt_0 rfl ?_
  refine wp_iload_n 1 dX3_turnAt_1 rfl ?_
  refine wp_ishr dX3_turnAt_2 ?_
  refine wp_iconst (v := (nI 1)) dX3_turnAt_3 (by decide) ?_
  refine wp_iand dX3_turnAt_4 ?_
  refine wp_if_ne (tgt := 9) dX3_turnAt_5 (by decide) (fun c1 => ?_) (fun c1 => ?_)
  · have hs := hs.1 c1
    refine wp_aload_n 0 dX3_turnAt_9 rfl ?_
    refine wp_get (v := .int (M r0 3)) dX3_turnAt_10 (σ_isH h0) (lt_isH h0) rfl in_X3_turnAt_X3 3 (by decide) fl_X3_turnAt_71 rfl rfl ?_
    refine wp_topi (fun y2 ey2 => ?_)
    have hs := hs y2 ey2
    refine wp_istore (ls' := [(0, .ref r0), (1, .int a), (2, .int b), (3, .int c), (4, .int y2)]) [1, 2, 3, 4, 0] dX3_turnAt_13 rfl (by decide) ?_
    refine wp_aload_n 0 dX3_turnAt_15 rfl ?_
    refine wp_iload_n 3 dX3_turnAt_16 rfl ?_
    refine wp_if_eq (tgt := 28) dX3_turnAt_17 (by decide) (fun c3 => ?_) (fun c3 => ?_)
    · have hs := hs.1 c3
      refine wp_aload_n 0 dX3_turnAt_28 rfl ?_
      refine wp_get (v := .int (M r0 4)) dX3_turnAt_29 (σ_isH h0) (lt_isH h0) rfl in_X3_turnAt_X3 4 (by decide) fl_X3_turnAt_74 rfl rfl ?_
      refine wp_put (ty := .int) tyX3 tyX3_ok nmX3 (σ_isH h0) (lt_isH h0) rfl in_X3_turnAt_X3 3 (by decide) fl_X3_turnAt_71 rfl rfl (by decide +kernel) rfl rfl dX3_turnAt_32 (fun M4 eM4 => ?_)
      have hs := hs M4 eM4
      refine wp_aload_n 0 dX3_turnAt_35 rfl ?_
      refine wp_iload_n 3 dX3_turnAt_36 rfl ?_
      refine wp_if_eq (tgt := 45) dX3_turnAt_37 (by decide) (fun c5 => ?_) (fun c5 => ?_)
      · have hs := hs.1 c5
        refine wp_iload 4 dX3_turnAt_45 rfl ?_
        refine wp_ineg dX3_turnAt_47 ?_
        refine wp_put (ty := .int) tyX3 tyX3_ok nmX3 (σ_isH h0) (lt_isH h0) rfl in_X3_turnAt_X3 4 (by decide) fl_X3_turnAt_74 rfl rfl (by decide +kernel) rfl rfl dX3_turnAt_48 (fun M6 eM6 => ?_)
        have hs := hs M6 eM6
        exact wp_return rfl dX3_turnAt_51 (hQ _ hs)
      · have hs := hs.2 c5
        refine wp_iload 4 dX3_turnAt_40 rfl ?_
        refine wp_goto (tgt := 48) dX3_turnAt_42 (by decide) ?_
        refine wp_put (ty := .int) tyX3 tyX3_ok nmX3 (σ_isH h0) (lt_isH h0) rfl in_X3_turnAt_X3 4 (by decide) fl_X3_turnAt_74 rfl rfl (by decide +kernel) rfl rfl dX3_turnAt_48 (fun M7 eM7 => ?_)
        have hs := hs M7 eM7
        exact wp_return rfl dX3_turnAt_51 (hQ _ hs)
    · have hs := hs.2 c3
      refine wp_aload_n 0 dX3_turnAt_20 rfl ?_
      refine wp_get (v := .int (M r0 4)) dX3_turnAt_21 (σ_isH h0) (lt_isH h0) rfl in_X3_turnAt_X3 4 (by decide) fl_X3_turnAt_74 rfl rfl ?_
      refine wp_ineg dX3_turnAt_24 ?_
      refine wp_goto (tgt := 32) dX3_turnAt_25 (by decide) ?_
      refine wp_put (ty := .int) tyX3 tyX3_ok nmX3 (σ_isH h0) (lt_isH h0) rfl in_X3_turnAt_X3 3 (by decide) fl_X3_turnAt_71 rfl rfl (by decide +kernel) rfl rfl dX3_turnAt_32 (fun M8 eM8 => ?_)
      have hs := hs M8 eM8
      refine wp_aload_n 0 dX3_turnAt_35 rfl ?_
      refine wp_iload_n 3 dX3_turnAt_36 rfl ?_
      refine wp_if_eq (tgt := 45) dX3_turnAt_37 (by decide) (fun c9 => ?_) (fun c9 => ?_)
      · have hs := hs.1 c9
        refine wp_iload 4 dX3_turnAt_45 rfl ?_
        refine wp_ineg dX3_turnAt_47 ?_
        refine wp_put (ty := .int) tyX3 tyX3_ok nmX3 (σ_isH h0) (lt_isH h0) rfl in_X3_turnAt_X3 4 (by decide) fl_X3_turnAt_74 rfl rfl (by decide +kernel) rfl rfl dX3_turnAt_48 (fun M10 eM10 => ?_)
        have hs := hs M10 eM10
        exact wp_return rfl dX3_turnAt_51 (hQ _ hs)
      · have hs := hs.2 c9
        refine wp_iload 4 dX3_turnAt_40 rfl ?_
        refine wp_goto (tgt := 48) dX3_turnAt_42 (by decide) ?_
        refine wp_put (ty := .int) tyX3 tyX3_ok nmX3 (σ_isH h0) (lt_isH h0) rfl in_X3_turnAt_X3 4 (by decide) fl_X3_turnAt_74 rfl rfl (by decide +kernel) rfl rfl dX3_turnAt_48 (fun M11 eM11 => ?_)
        have hs := hs M11 eM11
        exact wp_return rfl dX3_turnAt_51 (hQ _ hs)
  · have hs := hs.2 c1
    exact wp_return rfl dX3_turnAt_8 (hQ _ hs)
abbrev iX3_layFlat : MI := (cX3_layFlat, 7, none, RX3, yX3_layFlat, wsX3_layFlat)
theorem hy_X3_layFlat : yX3_layFlat.cls = RX3 ∧ yX3_layFlat.cls ≠ "java/lang/invoke/MethodHandle" ∧ yX3_layFlat.cls ≠ "java/lang/invoke/VarHandle" ∧ (parseMethodDescriptor yX3_layFlat.desc).map (fun d => d.parameters.length) = some 4 := by decide +kernel
theorem in_X3_layFlat_X3 : ∀ w ∈ u_ws RX3 TX3 11, w ∈ wsX3_layFlat := by decide +kernel
theorem in_X3_layFlat_X4 : ∀ w ∈ u_ws RX4 TX4 7, w ∈ wsX3_layFlat := by decide +kernel
theorem fl_X3_layFlat_30 : Cond.fieldLink RX3 30 (TX4 0).1 (TX4 0).2.1 (TX4 0).2.2.1 ∈ wsX3_layFlat := by decide +kernel
theorem fl_X3_layFlat_42 : Cond.fieldLink RX3 42 (TX3 0).1 (TX3 0).2.1 (TX3 0).2.2.1 ∈ wsX3_layFlat := by decide +kernel
def w_X3_layFlat_34 (r0 : Nat) (r1 : Nat) : Nat → Int32 → Int32 → Int32 → Int32 → (Nat → Nat → Int32) → (Int32 → (Nat → Nat → Int32) → Prop) → Prop
  | 0, _, _, _, _, _, _ => False
  | n + 1, x2, x4, x5, x6, M, K => (((M r0 0) ≤ x6 → K x6 M) ∧ (¬ (M r0 0) ≤ x6 → w_X4_isUp r1 (x6 - (nI 1)) M (fun v8 M7 => ((v8 = x4 → w_X3_turnAt r0 (x6 - (nI 1)) x5 (nI 0) M7 (fun M10 => w_X4_lengthAt r1 x6 M10 (fun v12 M11 => w_X3_draw r0 x6 v12 M11 (fun M13 => ∀ y14 : Int32, y14 = x6 + (nI 1) → w_X3_layFlat_34 r0 r1 n x2 x4 x5 y14 M13 K)))) ∧ (¬ v8 = x4 → w_X3_turnAt r0 (x6 - (nI 1)) x5 (nI 1) M7 (fun M15 => w_X4_lengthAt r1 x6 M15 (fun v17 M16 => w_X3_draw r0 x6 v17 M16 (fun M18 => ∀ y19 : Int32, y19 = x6 + (nI 1) → w_X3_layFlat_34 r0 r1 n x2 x4 x5 y19 M18 K))))))))
set_option maxHeartbeats 4000000 in
set_option maxRecDepth 100000 in
theorem lp_X3_layFlat_34 {E : EN} {r0 : Nat} {r1 : Nat} {x2 : Int32} {x4 : Int32} {x5 : Int32} {Qf : PST} {K : Int32 → (Nat → Nat → Int32) → Prop} (h0 : isH r0) (h1 : isS r1) (hK : ∀ (z6 : Int32) (M : Nat → Nat → Int32), K z6 M → WP E iX3_layFlat 2 0 0 false 89 [(0, .ref r0), (1, .ref r1), (2, .int x2), (4, .int x4), (5, .int x5)] [] σC 46 M Qf) : ∀ (nn : Nat) (x6 : Int32) (M : Nat → Nat → Int32), w_X3_layFlat_34 r0 r1 nn x2 x4 x5 x6 M K → WP E iX3_layFlat 2 0 0 false 34 [(0, .ref r0), (1, .ref r1), (2, .int x2), (4, .int x4), (5, .int x5), (6, .int x6)] [] σC 46 M Qf := by
  intro nn
  induction nn with
  | zero => intro x6 M hs; exact hs.elim
  | succ n ih =>
    intro x6 M hs
    unfold w_X3_layFlat_34 at hs
    refine wp_iload 5 dX3_layFlat_34 rfl ?_
    refine wp_aload_n 0 dX3_layFlat_36 rfl ?_
    refine wp_get (v := .int (M r0 0)) dX3_layFlat_37 (σ_isH h0) (lt_isH h0) rfl in_X3_layFlat_X3 0 (by decide) fl_X3_layFlat_42 rfl rfl ?_
    refine wp_icmp_ge (tgt := 89) dX3_layFlat_40 (by decide) (fun c6 => ?_) (fun c6 => ?_)
    · have hs := hs.1 c6
      refine wp_sub (ls' := [(0, .ref r0), (1, .ref r1), (2, .int x2), (4, .int x4), (5, .int x5)]) [0, 1, 2, 3, 4] rfl ?_
      exact hK _ _ hs
    · have hs := hs.2 c6
      refine wp_aload_n 0 dX3_layFlat_43 rfl ?_
      refine wp_iload 5 dX3_layFlat_44 rfl ?_
      refine wp_iconst (v := (nI 1)) dX3_layFlat_46 (by decide) ?_
      refine wp_isub dX3_layFlat_47 ?_
      refine wp_iload 4 dX3_layFlat_48 rfl ?_
      refine wp_aload_n 1 dX3_layFlat_50 rfl ?_
      refine wp_iload 5 dX3_layFlat_51 rfl ?_
      refine wp_iconst (v := (nI 1)) dX3_layFlat_53 (by decide) ?_
      refine wp_isub dX3_layFlat_54 ?_
      refine wp_cVi (As := [.int (x6 - (nI 1))]) (st := [.int x5, .int (x6 - (nI 1)), .ref r0]) (mw_X4_isUp h1 hs) gX3_layFlat_X4_isUp rfl hy_X4_isUp rfl (σ_isS h1) (lt_isS h1) rfl (by decide) (by decide) (Nat.le_of_ble_eq_true rfl) rfl dX3_layFlat_55 (fun v8 M7 hs => ?_)
      refine wp_iload 3 dX3_layFlat_58 rfl ?_
      refine wp_icmp_eq (tgt := 67) dX3_layFlat_60 (by decide) (fun c9 => ?_) (fun c9 => ?_)
      · have hs := hs.1 c9
        refine wp_iconst (v := (nI 0)) dX3_layFlat_67 (by decide) ?_
        refine wp_cVv (As := [.int (x6 - (nI 1)), .int x5, .int (nI 0)]) (st := []) (mw_X3_turnAt h0 hs) gX3_layFlat_X3_turnAt rfl hy_X3_turnAt rfl (σ_isH h0) (lt_isH h0) rfl (by decide) (by decide) (Nat.le_of_ble_eq_true rfl) rfl dX3_layFlat_68 (fun  M10 hs => ?_)
        refine wp_aload_n 0 dX3_layFlat_71 rfl ?_
        refine wp_iload 5 dX3_layFlat_72 rfl ?_
        refine wp_aload_n 1 dX3_layFlat_74 rfl ?_
        refine wp_iload 5 dX3_layFlat_75 rfl ?_
        refine wp_cVi (As := [.int x6]) (st := [.int x6, .ref r0]) (mw_X4_lengthAt h1 hs) gX3_layFlat_X4_lengthAt rfl hy_X4_lengthAt rfl (σ_isS h1) (lt_isS h1) rfl (by decide) (by decide) (Nat.le_of_ble_eq_true rfl) rfl dX3_layFlat_77 (fun v12 M11 hs => ?_)
        refine wp_cVv (As := [.int x6, .int v12]) (st := []) (mw_X3_draw h0 hs) gX3_layFlat_X3_draw rfl hy_X3_draw rfl (σ_isH h0) (lt_isH h0) rfl (by decide) (by decide) (Nat.le_of_ble_eq_true rfl) rfl dX3_layFlat_80 (fun  M13 hs => ?_)
        obtain ⟨y14, ey14⟩ : ∃ y : Int32, y = x6 + (nI 1) := ⟨_, rfl⟩
        have hs := hs y14 ey14
        refine wp_iinc (v := y14) (ls' := [(0, .ref r0), (1, .ref r1), (2, .int x2), (4, .int x4), (5, .int x5), (6, .int y14)]) 5 [1, 2, 3, 4, 5, 0] dX3_layFlat_83 rfl (by rw [ey14]; rfl) rfl (by decide) ?_
        refine wp_goto (tgt := 34) dX3_layFlat_86 (by decide) ?_
        refine wp_sub (ls' := [(0, .ref r0), (1, .ref r1), (2, .int x2), (4, .int x4), (5, .int x5), (6, .int y14)]) [0, 1, 2, 3, 4, 5] rfl ?_
        exact ih _ _ hs
      · have hs := hs.2 c9
        refine wp_iconst (v := (nI 1)) dX3_layFlat_63 (by decide) ?_
        refine wp_goto (tgt := 68) dX3_layFlat_64 (by decide) ?_
        refine wp_cVv (As := [.int (x6 - (nI 1)), .int x5, .int (nI 1)]) (st := []) (mw_X3_turnAt h0 hs) gX3_layFlat_X3_turnAt rfl hy_X3_turnAt rfl (σ_isH h0) (lt_isH h0) rfl (by decide) (by decide) (Nat.le_of_ble_eq_true rfl) rfl dX3_layFlat_68 (fun  M15 hs => ?_)
        refine wp_aload_n 0 dX3_layFlat_71 rfl ?_
        refine wp_iload 5 dX3_layFlat_72 rfl ?_
        refine wp_aload_n 1 dX3_layFlat_74 rfl ?_
        refine wp_iload 5 dX3_layFlat_75 rfl ?_
        refine wp_cVi (As := [.int x6]) (st := [.int x6, .ref r0]) (mw_X4_lengthAt h1 hs) gX3_layFlat_X4_lengthAt rfl hy_X4_lengthAt rfl (σ_isS h1) (lt_isS h1) rfl (by decide) (by decide) (Nat.le_of_ble_eq_true rfl) rfl dX3_layFlat_77 (fun v17 M16 hs => ?_)
        refine wp_cVv (As := [.int x6, .int v17]) (st := []) (mw_X3_draw h0 hs) gX3_layFlat_X3_draw rfl hy_X3_draw rfl (σ_isH h0) (lt_isH h0) rfl (by decide) (by decide) (Nat.le_of_ble_eq_true rfl) rfl dX3_layFlat_80 (fun  M18 hs => ?_)
        obtain ⟨y19, ey19⟩ : ∃ y : Int32, y = x6 + (nI 1) := ⟨_, rfl⟩
        have hs := hs y19 ey19
        refine wp_iinc (v := y19) (ls' := [(0, .ref r0), (1, .ref r1), (2, .int x2), (4, .int x4), (5, .int x5), (6, .int y19)]) 5 [1, 2, 3, 4, 5, 0] dX3_layFlat_83 rfl (by rw [ey19]; rfl) rfl (by decide) ?_
        refine wp_goto (tgt := 34) dX3_layFlat_86 (by decide) ?_
        refine wp_sub (ls' := [(0, .ref r0), (1, .ref r1), (2, .int x2), (4, .int x4), (5, .int x5), (6, .int y19)]) [0, 1, 2, 3, 4, 5] rfl ?_
        exact ih _ _ hs
def w_X3_layFlat_97 (r0 : Nat) (r1 : Nat) : Nat → Int32 → Int32 → Int32 → (Nat → Nat → Int32) → (Int32 → (Nat → Nat → Int32) → Prop) → Prop
  | 0, _, _, _, _, _ => False
  | n + 1, x4, x5, x6, M, K => ((x6 < 0 → K x6 M) ∧ (¬ x6 < 0 → w_X4_isUp r1 x6 M (fun v25 M24 => ((¬ v25 = x4 → w_X3_turnAt r0 x6 x5 (nI 0) M24 (fun M27 => w_X4_lengthAt r1 x6 M27 (fun v29 M28 => w_X3_draw r0 x6 v29 M28 (fun M30 => ∀ y31 : Int32, y31 = x6 + (-1 : Int32) → w_X3_layFlat_97 r0 r1 n x4 x5 y31 M30 K)))) ∧ (v25 = x4 → w_X3_turnAt r0 x6 x5 (nI 1) M24 (fun M32 => w_X4_lengthAt r1 x6 M32 (fun v34 M33 => w_X3_draw r0 x6 v34 M33 (fun M35 => ∀ y36 : Int32, y36 = x6 + (-1 : Int32) → w_X3_layFlat_97 r0 r1 n x4 x5 y36 M35 K))))))))
set_option maxHeartbeats 4000000 in
set_option maxRecDepth 100000 in
theorem lp_X3_layFlat_97 {E : EN} {r0 : Nat} {r1 : Nat} {x4 : Int32} {x5 : Int32} {Qf : PST} {K : Int32 → (Nat → Nat → Int32) → Prop} (h0 : isH r0) (h1 : isS r1) (hK : ∀ (z6 : Int32) (M : Nat → Nat → Int32), K z6 M → WP E iX3_layFlat 2 0 0 false 144 [] [] σC 46 M Qf) : ∀ (nn : Nat) (x6 : Int32) (M : Nat → Nat → Int32), w_X3_layFlat_97 r0 r1 nn x4 x5 x6 M K → WP E iX3_layFlat 2 0 0 false 97 [(0, .ref r0), (1, .ref r1), (4, .int x4), (5, .int x5), (6, .int x6)] [] σC 46 M Qf := by
  intro nn
  induction nn with
  | zero => intro x6 M hs; exact hs.elim
  | succ n ih =>
    intro x6 M hs
    unfold w_X3_layFlat_97 at hs
    refine wp_iload 4 dX3_layFlat_97 rfl ?_
    refine wp_if_lt (tgt := 144) dX3_layFlat_99 (by decide) (fun c23 => ?_) (fun c23 => ?_)
    · have hs := hs.1 c23
      refine wp_sub (ls' := []) [] rfl ?_
      exact hK _ _ hs
    · have hs := hs.2 c23
      refine wp_aload_n 0 dX3_layFlat_102 rfl ?_
      refine wp_iload 4 dX3_layFlat_103 rfl ?_
      refine wp_iload 3 dX3_layFlat_105 rfl ?_
      refine wp_aload_n 1 dX3_layFlat_107 rfl ?_
      refine wp_iload 4 dX3_layFlat_108 rfl ?_
      refine wp_cVi (As := [.int x6]) (st := [.int x5, .int x6, .ref r0]) (mw_X4_isUp h1 hs) gX3_layFlat_X4_isUp rfl hy_X4_isUp rfl (σ_isS h1) (lt_isS h1) rfl (by decide) (by decide) (Nat.le_of_ble_eq_true rfl) rfl dX3_layFlat_110 (fun v25 M24 hs => ?_)
      refine wp_iload 2 dX3_layFlat_113 rfl ?_
      refine wp_icmp_ne (tgt := 122) dX3_layFlat_115 (by decide) (fun c26 => ?_) (fun c26 => ?_)
      · have hs := hs.1 c26
        refine wp_iconst (v := (nI 0)) dX3_layFlat_122 (by decide) ?_
        refine wp_cVv (As := [.int x6, .int x5, .int (nI 0)]) (st := []) (mw_X3_turnAt h0 hs) gX3_layFlat_X3_turnAt rfl hy_X3_turnAt rfl (σ_isH h0) (lt_isH h0) rfl (by decide) (by decide) (Nat.le_of_ble_eq_true rfl) rfl dX3_layFlat_123 (fun  M27 hs => ?_)
        refine wp_aload_n 0 dX3_layFlat_126 rfl ?_
        refine wp_iload 4 dX3_layFlat_127 rfl ?_
        refine wp_aload_n 1 dX3_layFlat_129 rfl ?_
        refine wp_iload 4 dX3_layFlat_130 rfl ?_
        refine wp_cVi (As := [.int x6]) (st := [.int x6, .ref r0]) (mw_X4_lengthAt h1 hs) gX3_layFlat_X4_lengthAt rfl hy_X4_lengthAt rfl (σ_isS h1) (lt_isS h1) rfl (by decide) (by decide) (Nat.le_of_ble_eq_true rfl) rfl dX3_layFlat_132 (fun v29 M28 hs => ?_)
        refine wp_cVv (As := [.int x6, .int v29]) (st := []) (mw_X3_draw h0 hs) gX3_layFlat_X3_draw rfl hy_X3_draw rfl (σ_isH h0) (lt_isH h0) rfl (by decide) (by decide) (Nat.le_of_ble_eq_true rfl) rfl dX3_layFlat_135 (fun  M30 hs => ?_)
        obtain ⟨y31, ey31⟩ : ∃ y : Int32, y = x6 + (-1 : Int32) := ⟨_, rfl⟩
        have hs := hs y31 ey31
        refine wp_iinc (v := y31) (ls' := [(0, .ref r0), (1, .ref r1), (4, .int x4), (5, .int x5), (6, .int y31)]) 4 [1, 2, 3, 4, 0] dX3_layFlat_138 rfl (by rw [ey31]; rfl) rfl (by decide) ?_
        refine wp_goto (tgt := 97) dX3_layFlat_141 (by decide) ?_
        refine wp_sub (ls' := [(0, .ref r0), (1, .ref r1), (4, .int x4), (5, .int x5), (6, .int y31)]) [0, 1, 2, 3, 4] rfl ?_
        exact ih _ _ hs
      · have hs := hs.2 c26
        refine wp_iconst (v := (nI 1)) dX3_layFlat_118 (by decide) ?_
        refine wp_goto (tgt := 123) dX3_layFlat_119 (by decide) ?_
        refine wp_cVv (As := [.int x6, .int x5, .int (nI 1)]) (st := []) (mw_X3_turnAt h0 hs) gX3_layFlat_X3_turnAt rfl hy_X3_turnAt rfl (σ_isH h0) (lt_isH h0) rfl (by decide) (by decide) (Nat.le_of_ble_eq_true rfl) rfl dX3_layFlat_123 (fun  M32 hs => ?_)
        refine wp_aload_n 0 dX3_layFlat_126 rfl ?_
        refine wp_iload 4 dX3_layFlat_127 rfl ?_
        refine wp_aload_n 1 dX3_layFlat_129 rfl ?_
        refine wp_iload 4 dX3_layFlat_130 rfl ?_
        refine wp_cVi (As := [.int x6]) (st := [.int x6, .ref r0]) (mw_X4_lengthAt h1 hs) gX3_layFlat_X4_lengthAt rfl hy_X4_lengthAt rfl (σ_isS h1) (lt_isS h1) rfl (by decide) (by decide) (Nat.le_of_ble_eq_true rfl) rfl dX3_layFlat_132 (fun v34 M33 hs => ?_)
        refine wp_cVv (As := [.int x6, .int v34]) (st := []) (mw_X3_draw h0 hs) gX3_layFlat_X3_draw rfl hy_X3_draw rfl (σ_isH h0) (lt_isH h0) rfl (by decide) (by decide) (Nat.le_of_ble_eq_true rfl) rfl dX3_layFlat_135 (fun  M35 hs => ?_)
        obtain ⟨y36, ey36⟩ : ∃ y : Int32, y = x6 + (-1 : Int32) := ⟨_, rfl⟩
        have hs := hs y36 ey36
        refine wp_iinc (v := y36) (ls' := [(0, .ref r0), (1, .ref r1), (4, .int x4), (5, .int x5), (6, .int y36)]) 4 [1, 2, 3, 4, 0] dX3_layFlat_138 rfl (by rw [ey36]; rfl) rfl (by decide) ?_
        refine wp_goto (tgt := 97) dX3_layFlat_141 (by decide) ?_
        refine wp_sub (ls' := [(0, .ref r0), (1, .ref r1), (4, .int x4), (5, .int x5), (6, .int y36)]) [0, 1, 2, 3, 4] rfl ?_
        exact ih _ _ hs
def w_X3_layFlat (r0 : Nat) (r1 : Nat) (b : Int32) (c : Int32) (d : Int32) (M : Nat → Nat → Int32) (Q : (Nat → Nat → Int32) → Prop) : Prop := ∀ y1 : Int32, y1 = (c &&& (((nI 1) <<< (b &&& 31)) ^^^ (-1 : Int32))) → ∀ y2 : Int32, y2 = (if (nI 8) < ((M r1 0) + (nI 1)) then (nI 8) else ((M r1 0) + (nI 1))) → ∀ M3 : Nat → Nat → Int32, M3 = um M r0 (upd (M r0) 0 y2) → w_X3_startAtTool r0 (nI 1) M3 (fun M4 => ∀ y5 : Int32, y5 = (b + (nI 1)) → w_X3_layFlat_34 r0 r1 FU b d y1 y5 M4 (fun y20 M21 => w_X3_startAtTool r0 (-1 : Int32) M21 (fun M22 => w_X3_layFlat_97 r0 r1 FU d y1 b M22 (fun y37 M38 => Q M38))))
set_option maxHeartbeats 4000000 in
set_option maxRecDepth 100000 in
theorem mw_X3_layFlat {E : EN} {r0 : Nat} {r1 : Nat} {b : Int32} {c : Int32} {d : Int32} {M : Nat → Nat → Int32} {Q : (Nat → Nat → Int32) → Prop} (h0 : isH r0) (h1 : isS r1) (hs : w_X3_layFlat r0 r1 b c d M Q) : MW E iX3_layFlat 2 0 0 false [.ref r0, .ref r1, .int b, .int c, .int d] σC 46 M (qV σC 46 Q) := by
  refine mw_intro (ls := [(0, .ref r0), (1, .ref r1), (2, .int b), (3, .int c), (4, .int d)]) rfl (by decide +kernel) rfl rfl (Nat.le_of_ble_eq_true rfl) ?_
  have hQ : ∀ M, Q M → (qV σC 46 Q) none σC 46 M := fun _ h => ⟨rfl, rfl, rfl, h⟩
  generalize (qV σC 46 Q) = Qf at hQ ⊢
  unfold w_X3_layFlat at hs
  refine wp_iload_n 3 dX3_layFlat_0 rfl ?_
  refine wp_iconst (v := (nI 1)) dX3_layFlat_1 (by decide) ?_
  refine wp_iload_n 2 dX3_layFlat_2 rfl ?_
  refine wp_ishl dX3_layFlat_3 ?_
  refine wp_iconst (v := (-1 : Int32)) dX3_layFlat_4 (by decide) ?_
  refine wp_ixor dX3_layFlat_5 ?_
  refine wp_iand dX3_layFlat_6 ?_
  refine wp_topi (fun y1 ey1 => ?_)
  have hs := hs y1 ey1
  refine wp_istore (ls' := [(0, .ref r0), (1, .ref r1), (2, .int b), (3, .int c), (4, .int d), (5, .int y1)]) [1, 2, 3, 4, 5, 0] dX3_layFlat_7 rfl (by decide) ?_
  refine wp_aload_n 0 dX3_layFlat_9 rfl ?_
  refine wp_aload_n 1 dX3_layFlat_10 rfl ?_
  refine wp_get (v := .int (M r1 0)) dX3_layFlat_11 (σ_isS h1) (lt_isS h1) rfl in_X3_layFlat_X4 0 (by decide) fl_X3_layFlat_30 rfl rfl ?_
  refine wp_iconst (v := (nI 1)) dX3_layFlat_14 (by decide) ?_
  refine wp_iadd dX3_layFlat_15 ?_
  refine wp_bipush (v := (nI 8)) dX3_layFlat_16 (by decide) ?_
  refine wp_mmin (by decide +kernel) (by decide +kernel) (by decide +kernel) (by decide +kernel) (by decide) (Nat.le_of_ble_eq_true rfl) dX3_layFlat_18 ?_
  refine wp_topi (fun y2 ey2 => ?_)
  have hs := hs y2 ey2
  refine wp_put (ty := .int) tyX3 tyX3_ok nmX3 (σ_isH h0) (lt_isH h0) rfl in_X3_layFlat_X3 0 (by decide) fl_X3_layFlat_42 rfl rfl (by decide +kernel) rfl rfl dX3_layFlat_21 (fun M3 eM3 => ?_)
  have hs := hs M3 eM3
  refine wp_aload_n 0 dX3_layFlat_24 rfl ?_
  refine wp_iconst (v := (nI 1)) dX3_layFlat_25 (by decide) ?_
  refine wp_cVv (As := [.int (nI 1)]) (st := []) (mw_X3_startAtTool h0 hs) gX3_layFlat_X3_startAtTool rfl hy_X3_startAtTool rfl (σ_isH h0) (lt_isH h0) rfl (by decide) (by decide) (Nat.le_of_ble_eq_true rfl) rfl dX3_layFlat_26 (fun  M4 hs => ?_)
  refine wp_iload_n 2 dX3_layFlat_29 rfl ?_
  refine wp_iconst (v := (nI 1)) dX3_layFlat_30 (by decide) ?_
  refine wp_iadd dX3_layFlat_31 ?_
  refine wp_topi (fun y5 ey5 => ?_)
  have hs := hs y5 ey5
  refine wp_istore (ls' := [(0, .ref r0), (1, .ref r1), (2, .int b), (3, .int c), (4, .int d), (5, .int y1), (6, .int y5)]) [1, 2, 3, 4, 5, 6, 0] dX3_layFlat_32 rfl (by decide) ?_
  refine wp_sub (ls' := [(0, .ref r0), (1, .ref r1), (2, .int b), (4, .int d), (5, .int y1), (6, .int y5)]) [0, 1, 2, 4, 5, 6] rfl ?_
  refine lp_X3_layFlat_34 h0 h1 (K := fun y20 M21 => w_X3_startAtTool r0 (-1 : Int32) M21 (fun M22 => w_X3_layFlat_97 r0 r1 FU d y1 b M22 (fun y37 M38 => Q M38))) (fun y20 M21 hs => ?_) FU _ _ hs
  refine wp_aload_n 0 dX3_layFlat_89 rfl ?_
  refine wp_iconst (v := (-1 : Int32)) dX3_layFlat_90 (by decide) ?_
  refine wp_cVv (As := [.int (-1 : Int32)]) (st := []) (mw_X3_startAtTool h0 hs) gX3_layFlat_X3_startAtTool rfl hy_X3_startAtTool rfl (σ_isH h0) (lt_isH h0) rfl (by decide) (by decide) (Nat.le_of_ble_eq_true rfl) rfl dX3_layFlat_91 (fun  M22 hs => ?_)
  refine wp_iload_n 2 dX3_layFlat_94 rfl ?_
  refine wp_istore (ls' := [(0, .ref r0), (1, .ref r1), (2, .int b), (4, .int d), (5, .int y1), (6, .int b)]) [1, 2, 3, 4, 5, 0] dX3_layFlat_95 rfl (by decide) ?_
  refine wp_sub (ls' := [(0, .ref r0), (1, .ref r1), (4, .int d), (5, .int y1), (6, .int b)]) [0, 1, 3, 4, 5] rfl ?_
  refine lp_X3_layFlat_97 h0 h1 (K := fun y37 M38 => Q M38) (fun y37 M38 hs => ?_) FU _ _ hs
  exact wp_return rfl dX3_layFlat_144 (hQ _ hs)
abbrev iX3_strikesItself : MI := (cX3_strikesItself, 3, some .boolean, RX3, yX3_strikesItself, wsX3_strikesItself)
theorem hy_X3_strikesItself : yX3_strikesItself.cls = RX3 ∧ yX3_strikesItself.cls ≠ "java/lang/invoke/MethodHandle" ∧ yX3_strikesItself.cls ≠ "java/lang/invoke/VarHandle" ∧ (parseMethodDescriptor yX3_strikesItself.desc).map (fun d => d.parameters.length) = some 0 := by decide +kernel
theorem in_X3_strikesItself_X3 : ∀ w ∈ u_ws RX3 TX3 11, w ∈ wsX3_strikesItself := by decide +kernel
theorem fl_X3_strikesItself_9 : Cond.fieldLink RX3 9 (TX3 5).1 (TX3 5).2.1 (TX3 5).2.2.1 ∈ wsX3_strikesItself := by decide +kernel
theorem fl_X3_strikesItself_15 : Cond.fieldLink RX3 15 (TX3 6).1 (TX3 6).2.1 (TX3 6).2.2.1 ∈ wsX3_strikesItself := by decide +kernel
theorem fl_X3_strikesItself_18 : Cond.fieldLink RX3 18 (TX3 7).1 (TX3 7).2.1 (TX3 7).2.2.1 ∈ wsX3_strikesItself := by decide +kernel
theorem fl_X3_strikesItself_21 : Cond.fieldLink RX3 21 (TX3 8).1 (TX3 8).2.1 (TX3 8).2.2.1 ∈ wsX3_strikesItself := by decide +kernel
theorem fl_X3_strikesItself_42 : Cond.fieldLink RX3 42 (TX3 0).1 (TX3 0).2.1 (TX3 0).2.2.1 ∈ wsX3_strikesItself := by decide +kernel
def w_X3_strikesItself_2 (r0 : Nat) : Nat → Int32 → (Nat → Nat → Int32) → (Int32 → (Nat → Nat → Int32) → Prop) → (Int32 → (Nat → Nat → Int32) → Prop) → Prop
  | 0, _, _, _, _ => False
  | n + 1, x1, M, Q, K => (((M r0 0) ≤ x1 → K x1 M) ∧ (¬ (M r0 0) ≤ x1 → (((nI 8) ≤ x1 → K x1 M) ∧ (¬ (nI 8) ≤ x1 → (vp_in x1 8 ∧ (vp_in x1 8 ∧ (vp_in x1 8 ∧ (vp_in x1 8 ∧ w_X3_flangesIn r0 (M (r0 + 1) x1.toNatClampNeg) (M (r0 + 2) x1.toNatClampNeg) (M (r0 + 3) x1.toNatClampNeg) (M (r0 + 4) x1.toNatClampNeg) M (fun v4 M3 => (((v4 >>> ((x1 + (nI 2)) &&& 31)) = 0 → ∀ y6 : Int32, y6 = x1 + (nI 1) → w_X3_strikesItself_2 r0 n y6 M3 Q K) ∧ (¬ (v4 >>> ((x1 + (nI 2)) &&& 31)) = 0 → Q (nI 1) M3)))))))))))
set_option maxHeartbeats 4000000 in
set_option maxRecDepth 100000 in
theorem lp_X3_strikesItself_2 {E : EN} {r0 : Nat} {Qf : PST} {Q : Int32 → (Nat → Nat → Int32) → Prop} {K : Int32 → (Nat → Nat → Int32) → Prop} (h0 : isH r0) (hQ : ∀ x M, Q x M → Qf (some (.int x)) σC 46 M) (hK : ∀ (z1 : Int32) (M : Nat → Nat → Int32), K z1 M → WP E iX3_strikesItself 2 0 0 false 61 [] [] σC 46 M Qf) : ∀ (nn : Nat) (x1 : Int32) (M : Nat → Nat → Int32), w_X3_strikesItself_2 r0 nn x1 M Q K → WP E iX3_strikesItself 2 0 0 false 2 [(0, .ref r0), (1, .int x1)] [] σC 46 M Qf := by
  intro nn
  induction nn with
  | zero => intro x1 M hs; exact hs.elim
  | succ n ih =>
    intro x1 M hs
    unfold w_X3_strikesItself_2 at hs
    refine wp_iload_n 1 dX3_strikesItself_2 rfl ?_
    refine wp_aload_n 0 dX3_strikesItself_3 rfl ?_
    refine wp_get (v := .int (M r0 0)) dX3_strikesItself_4 (σ_isH h0) (lt_isH h0) rfl in_X3_strikesItself_X3 0 (by decide) fl_X3_strikesItself_42 rfl rfl ?_
    refine wp_icmp_ge (tgt := 61) dX3_strikesItself_7 (by decide) (fun c1 => ?_) (fun c1 => ?_)
    · have hs := hs.1 c1
      refine wp_sub (ls' := []) [] rfl ?_
      exact hK _ _ hs
    · have hs := hs.2 c1
      refine wp_iload_n 1 dX3_strikesItself_10 rfl ?_
      refine wp_bipush (v := (nI 8)) dX3_strikesItself_11 (by decide) ?_
      refine wp_icmp_ge (tgt := 61) dX3_strikesItself_13 (by decide) (fun c2 => ?_) (fun c2 => ?_)
      · have hs := hs.1 c2
        refine wp_sub (ls' := []) [] rfl ?_
        exact hK _ _ hs
      · have hs := hs.2 c2
        refine wp_aload_n 0 dX3_strikesItself_16 rfl ?_
        refine wp_aload_n 0 dX3_strikesItself_17 rfl ?_
        refine wp_get (v := .ref (r0 + 1)) dX3_strikesItself_18 (σ_isH h0) (lt_isH h0) rfl in_X3_strikesItself_X3 5 (by decide) fl_X3_strikesItself_9 rfl rfl ?_
        refine wp_iload_n 1 dX3_strikesItself_21 rfl ?_
        have hv := hs.1
        have hs := hs.2
        refine wp_iald (σ_isH1 h0) (lt_isH1 h0) hv dX3_strikesItself_22 ?_
        refine wp_aload_n 0 dX3_strikesItself_23 rfl ?_
        refine wp_get (v := .ref (r0 + 2)) dX3_strikesItself_24 (σ_isH h0) (lt_isH h0) rfl in_X3_strikesItself_X3 6 (by decide) fl_X3_strikesItself_15 rfl rfl ?_
        refine wp_iload_n 1 dX3_strikesItself_27 rfl ?_
        have hv := hs.1
        have hs := hs.2
        refine wp_iald (σ_isH2 h0) (lt_isH2 h0) hv dX3_strikesItself_28 ?_
        refine wp_aload_n 0 dX3_strikesItself_29 rfl ?_
        refine wp_get (v := .ref (r0 + 3)) dX3_strikesItself_30 (σ_isH h0) (lt_isH h0) rfl in_X3_strikesItself_X3 7 (by decide) fl_X3_strikesItself_18 rfl rfl ?_
        refine wp_iload_n 1 dX3_strikesItself_33 rfl ?_
        have hv := hs.1
        have hs := hs.2
        refine wp_iald (σ_isH3 h0) (lt_isH3 h0) hv dX3_strikesItself_34 ?_
        refine wp_aload_n 0 dX3_strikesItself_35 rfl ?_
        refine wp_get (v := .ref (r0 + 4)) dX3_strikesItself_36 (σ_isH h0) (lt_isH h0) rfl in_X3_strikesItself_X3 8 (by decide) fl_X3_strikesItself_21 rfl rfl ?_
        refine wp_iload_n 1 dX3_strikesItself_39 rfl ?_
        have hv := hs.1
        have hs := hs.2
        refine wp_iald (σ_isH4 h0) (lt_isH4 h0) hv dX3_strikesItself_40 ?_
        refine wp_cVi (As := [.int (M (r0 + 1) x1.toNatClampNeg), .int (M (r0 + 2) x1.toNatClampNeg), .int (M (r0 + 3) x1.toNatClampNeg), .int (M (r0 + 4) x1.toNatClampNeg)]) (st := []) (mw_X3_flangesIn h0 hs) gX3_strikesItself_X3_flangesIn rfl hy_X3_flangesIn rfl (σ_isH h0) (lt_isH h0) rfl (by decide) (by decide) (Nat.le_of_ble_eq_true rfl) rfl dX3_strikesItself_41 (fun v4 M3 hs => ?_)
        refine wp_istore_n (ls' := [(0, .ref r0), (1, .int x1), (2, .int v4)]) [1, 2, 0] dX3_strikesItself_44 rfl (by decide) ?_
        refine wp_iload_n 2 dX3_strikesItself_45 rfl ?_
        refine wp_iload_n 1 dX3_strikesItself_46 rfl ?_
        refine wp_iconst (v := (nI 2)) dX3_strikesItself_47 (by decide) ?_
        refine wp_iadd dX3_strikesItself_48 ?_
        refine wp_ishr dX3_strikesItself_49 ?_
        refine wp_if_eq (tgt := 55) dX3_strikesItself_50 (by decide) (fun c5 => ?_) (fun c5 => ?_)
        · have hs := hs.1 c5
          obtain ⟨y6, ey6⟩ : ∃ y : Int32, y = x1 + (nI 1) := ⟨_, rfl⟩
          have hs := hs y6 ey6
          refine wp_iinc (v := y6) (ls' := [(0, .ref r0), (1, .int y6), (2, .int v4)]) 1 [1, 0, 2] dX3_strikesItself_55 rfl (by rw [ey6]; rfl) rfl (by decide) ?_
          refine wp_goto (tgt := 2) dX3_strikesItself_58 (by decide) ?_
          refine wp_sub (ls' := [(0, .ref r0), (1, .int y6)]) [0, 1] rfl ?_
          exact ih _ _ hs
        · have hs := hs.2 c5
          refine wp_iconst (v := (nI 1)) dX3_strikesItself_53 (by decide) ?_
          exact wp_ireturn rfl rfl dX3_strikesItself_54 (hQ _ _ hs)
def w_X3_strikesItself (r0 : Nat) (M : Nat → Nat → Int32) (Q : Int32 → (Nat → Nat → Int32) → Prop) : Prop := w_X3_strikesItself_2 r0 FU (nI 0) M Q (fun y7 M8 => Q (nI 0) M8)
set_option maxHeartbeats 4000000 in
set_option maxRecDepth 100000 in
theorem mw_X3_strikesItself {E : EN} {r0 : Nat} {M : Nat → Nat → Int32} {Q : Int32 → (Nat → Nat → Int32) → Prop} (h0 : isH r0) (hs : w_X3_strikesItself r0 M Q) : MW E iX3_strikesItself 2 0 0 false [.ref r0] σC 46 M (qI σC 46 Q) := by
  refine mw_intro (ls := [(0, .ref r0)]) rfl (by decide +kernel) rfl rfl (Nat.le_of_ble_eq_true rfl) ?_
  have hQ : ∀ x M, Q x M → (qI σC 46 Q) (some (.int x)) σC 46 M := fun _ _ h => ⟨_, rfl, rfl, rfl, h⟩
  generalize (qI σC 46 Q) = Qf at hQ ⊢
  unfold w_X3_strikesItself at hs
  refine wp_iconst (v := (nI 0)) dX3_strikesItself_0 (by decide) ?_
  refine wp_istore_n (ls' := [(0, .ref r0), (1, .int (nI 0))]) [1, 0] dX3_strikesItself_1 rfl (by decide) ?_
  refine wp_sub (ls' := [(0, .ref r0), (1, .int (nI 0))]) [0, 1] rfl ?_
  refine lp_X3_strikesItself_2 h0 hQ (K := fun y7 M8 => Q (nI 0) M8) (fun y7 M8 hs => ?_) FU _ _ hs
  refine wp_iconst (v := (nI 0)) dX3_strikesItself_61 (by decide) ?_
  exact wp_ireturn rfl rfl dX3_strikesItself_62 (hQ _ _ hs)
abbrev iX3_swingUp : MI := (cX3_swingUp, 5, none, RX3, yX3_swingUp, wsX3_swingUp)
theorem hy_X3_swingUp : yX3_swingUp.cls = RX3 ∧ yX3_swingUp.cls ≠ "java/lang/invoke/MethodHandle" ∧ yX3_swingUp.cls ≠ "java/lang/invoke/VarHandle" ∧ (parseMethodDescriptor yX3_swingUp.desc).map (fun d => d.parameters.length) = some 1 := by decide +kernel
theorem in_X3_swingUp_X3 : ∀ w ∈ u_ws RX3 TX3 11, w ∈ wsX3_swingUp := by decide +kernel
theorem fl_X3_swingUp_9 : Cond.fieldLink RX3 9 (TX3 5).1 (TX3 5).2.1 (TX3 5).2.2.1 ∈ wsX3_swingUp := by decide +kernel
theorem fl_X3_swingUp_15 : Cond.fieldLink RX3 15 (TX3 6).1 (TX3 6).2.1 (TX3 6).2.2.1 ∈ wsX3_swingUp := by decide +kernel
theorem fl_X3_swingUp_18 : Cond.fieldLink RX3 18 (TX3 7).1 (TX3 7).2.1 (TX3 7).2.2.1 ∈ wsX3_swingUp := by decide +kernel
theorem fl_X3_swingUp_21 : Cond.fieldLink RX3 21 (TX3 8).1 (TX3 8).2.1 (TX3 8).2.2.1 ∈ wsX3_swingUp := by decide +kernel
def w_X3_swingUp_2 (r0 : Nat) : Nat → Int32 → Int32 → (Nat → Nat → Int32) → (Int32 → (Nat → Nat → Int32) → Prop) → Prop
  | 0, _, _, _, _ => False
  | n + 1, x1, x2, M, K => ((x1 < x2 → K x2 M) ∧ (¬ x1 < x2 → (((nI 8) ≤ x2 → K x2 M) ∧ (¬ (nI 8) ≤ x2 → (vp_in x2 8 ∧ ∀ y3 : Int32, y3 = (M (r0 + 1) x2.toNatClampNeg) → (vp_in x2 8 ∧ ∀ y4 : Int32, y4 = (M (r0 + 2) x2.toNatClampNeg) → (vp_in x2 8 ∧ (vp_in x2 8 ∧ ∀ M5 : Nat → Nat → Int32, M5 = um M (r0 + 1) (upd (M (r0 + 1)) x2.toNatClampNeg (M (r0 + 3) x2.toNatClampNeg)) → (vp_in x2 8 ∧ (vp_in x2 8 ∧ ∀ M6 : Nat → Nat → Int32, M6 = um M5 (r0 + 2) (upd (M5 (r0 + 2)) x2.toNatClampNeg (M5 (r0 + 4) x2.toNatClampNeg)) → (vp_in x2 8 ∧ ∀ M7 : Nat → Nat → Int32, M7 = um M6 (r0 + 3) (upd (M6 (r0 + 3)) x2.toNatClampNeg (-y4)) → (vp_in x2 8 ∧ ∀ M8 : Nat → Nat → Int32, M8 = um M7 (r0 + 4) (upd (M7 (r0 + 4)) x2.toNatClampNeg (-y3)) → ∀ y9 : Int32, y9 = x2 + (nI 1) → w_X3_swingUp_2 r0 n x1 y9 M8 K))))))))))))
set_option maxHeartbeats 4000000 in
set_option maxRecDepth 100000 in
theorem lp_X3_swingUp_2 {E : EN} {r0 : Nat} {x1 : Int32} {Qf : PST} {K : Int32 → (Nat → Nat → Int32) → Prop} (h0 : isH r0) (hK : ∀ (z2 : Int32) (M : Nat → Nat → Int32), K z2 M → WP E iX3_swingUp 1 0 0 false 75 [] [] σC 46 M Qf) : ∀ (nn : Nat) (x2 : Int32) (M : Nat → Nat → Int32), w_X3_swingUp_2 r0 nn x1 x2 M K → WP E iX3_swingUp 1 0 0 false 2 [(0, .ref r0), (1, .int x1), (2, .int x2)] [] σC 46 M Qf := by
  intro nn
  induction nn with
  | zero => intro x2 M hs; exact hs.elim
  | succ n ih =>
    intro x2 M hs
    unfold w_X3_swingUp_2 at hs
    refine wp_iload_n 2 dX3_swingUp_2 rfl ?_
    refine wp_iload_n 1 dX3_swingUp_3 rfl ?_
    refine wp_icmp_gt (tgt := 75) dX3_swingUp_4 (by decide) (fun c1 => ?_) (fun c1 => ?_)
    · have hs := hs.1 c1
      refine wp_sub (ls' := []) [] rfl ?_
      exact hK _ _ hs
    · have hs := hs.2 c1
      refine wp_iload_n 2 dX3_swingUp_7 rfl ?_
      refine wp_bipush (v := (nI 8)) dX3_swingUp_8 (by decide) ?_
      refine wp_icmp_ge (tgt := 75) dX3_swingUp_10 (by decide) (fun c2 => ?_) (fun c2 => ?_)
      · have hs := hs.1 c2
        refine wp_sub (ls' := []) [] rfl ?_
        exact hK _ _ hs
      · have hs := hs.2 c2
        refine wp_aload_n 0 dX3_swingUp_13 rfl ?_
        refine wp_get (v := .ref (r0 + 1)) dX3_swingUp_14 (σ_isH h0) (lt_isH h0) rfl in_X3_swingUp_X3 5 (by decide) fl_X3_swingUp_9 rfl rfl ?_
        refine wp_iload_n 2 dX3_swingUp_17 rfl ?_
        have hv := hs.1
        have hs := hs.2
        refine wp_iald (σ_isH1 h0) (lt_isH1 h0) hv dX3_swingUp_18 ?_
        refine wp_topi (fun y3 ey3 => ?_)
        have hs := hs y3 ey3
        refine wp_istore_n (ls' := [(0, .ref r0), (1, .int x1), (2, .int x2), (3, .int y3)]) [1, 2, 3, 0] dX3_swingUp_19 rfl (by decide) ?_
        refine wp_aload_n 0 dX3_swingUp_20 rfl ?_
        refine wp_get (v := .ref (r0 + 2)) dX3_swingUp_21 (σ_isH h0) (lt_isH h0) rfl in_X3_swingUp_X3 6 (by decide) fl_X3_swingUp_15 rfl rfl ?_
        refine wp_iload_n 2 dX3_swingUp_24 rfl ?_
        have hv := hs.1
        have hs := hs.2
        refine wp_iald (σ_isH2 h0) (lt_isH2 h0) hv dX3_swingUp_25 ?_
        refine wp_topi (fun y4 ey4 => ?_)
        have hs := hs y4 ey4
        refine wp_istore (ls' := [(0, .ref r0), (1, .int x1), (2, .int x2), (3, .int y3), (4, .int y4)]) [1, 2, 3, 4, 0] dX3_swingUp_26 rfl (by decide) ?_
        refine wp_aload_n 0 dX3_swingUp_28 rfl ?_
        refine wp_get (v := .ref (r0 + 1)) dX3_swingUp_29 (σ_isH h0) (lt_isH h0) rfl in_X3_swingUp_X3 5 (by decide) fl_X3_swingUp_9 rfl rfl ?_
        refine wp_iload_n 2 dX3_swingUp_32 rfl ?_
        refine wp_aload_n 0 dX3_swingUp_33 rfl ?_
        refine wp_get (v := .ref (r0 + 3)) dX3_swingUp_34 (σ_isH h0) (lt_isH h0) rfl in_X3_swingUp_X3 7 (by decide) fl_X3_swingUp_18 rfl rfl ?_
        refine wp_iload_n 2 dX3_swingUp_37 rfl ?_
        have hv := hs.1
        have hs := hs.2
        refine wp_iald (σ_isH3 h0) (lt_isH3 h0) hv dX3_swingUp_38 ?_
        have hv := hs.1
        have hs := hs.2
        refine wp_iast (σ_isH1 h0) (lt_isH1 h0) hv dX3_swingUp_39 (fun M5 eM5 => ?_)
        have hs := hs M5 eM5
        refine wp_aload_n 0 dX3_swingUp_40 rfl ?_
        refine wp_get (v := .ref (r0 + 2)) dX3_swingUp_41 (σ_isH h0) (lt_isH h0) rfl in_X3_swingUp_X3 6 (by decide) fl_X3_swingUp_15 rfl rfl ?_
        refine wp_iload_n 2 dX3_swingUp_44 rfl ?_
        refine wp_aload_n 0 dX3_swingUp_45 rfl ?_
        refine wp_get (v := .ref (r0 + 4)) dX3_swingUp_46 (σ_isH h0) (lt_isH h0) rfl in_X3_swingUp_X3 8 (by decide) fl_X3_swingUp_21 rfl rfl ?_
        refine wp_iload_n 2 dX3_swingUp_49 rfl ?_
        have hv := hs.1
        have hs := hs.2
        refine wp_iald (σ_isH4 h0) (lt_isH4 h0) hv dX3_swingUp_50 ?_
        have hv := hs.1
        have hs := hs.2
        refine wp_iast (σ_isH2 h0) (lt_isH2 h0) hv dX3_swingUp_51 (fun M6 eM6 => ?_)
        have hs := hs M6 eM6
        refine wp_aload_n 0 dX3_swingUp_52 rfl ?_
        refine wp_get (v := .ref (r0 + 3)) dX3_swingUp_53 (σ_isH h0) (lt_isH h0) rfl in_X3_swingUp_X3 7 (by decide) fl_X3_swingUp_18 rfl rfl ?_
        refine wp_iload_n 2 dX3_swingUp_56 rfl ?_
        refine wp_iload 4 dX3_swingUp_57 rfl ?_
        refine wp_ineg dX3_swingUp_59 ?_
        have hv := hs.1
        have hs := hs.2
        refine wp_iast (σ_isH3 h0) (lt_isH3 h0) hv dX3_swingUp_60 (fun M7 eM7 => ?_)
        have hs := hs M7 eM7
        refine wp_aload_n 0 dX3_swingUp_61 rfl ?_
        refine wp_get (v := .ref (r0 + 4)) dX3_swingUp_62 (σ_isH h0) (lt_isH h0) rfl in_X3_swingUp_X3 8 (by decide) fl_X3_swingUp_21 rfl rfl ?_
        refine wp_iload_n 2 dX3_swingUp_65 rfl ?_
        refine wp_iload_n 3 dX3_swingUp_66 rfl ?_
        refine wp_ineg dX3_swingUp_67 ?_
        have hv := hs.1
        have hs := hs.2
        refine wp_iast (σ_isH4 h0) (lt_isH4 h0) hv dX3_swingUp_68 (fun M8 eM8 => ?_)
        have hs := hs M8 eM8
        obtain ⟨y9, ey9⟩ : ∃ y : Int32, y = x2 + (nI 1) := ⟨_, rfl⟩
        have hs := hs y9 ey9
        refine wp_iinc (v := y9) (ls' := [(0, .ref r0), (1, .int x1), (2, .int y9), (3, .int y3), (4, .int y4)]) 2 [1, 2, 0, 3, 4] dX3_swingUp_69 rfl (by rw [ey9]; rfl) rfl (by decide) ?_
        refine wp_goto (tgt := 2) dX3_swingUp_72 (by decide) ?_
        refine wp_sub (ls' := [(0, .ref r0), (1, .int x1), (2, .int y9)]) [0, 1, 2] rfl ?_
        exact ih _ _ hs
def w_X3_swingUp (r0 : Nat) (a : Int32) (M : Nat → Nat → Int32) (Q : (Nat → Nat → Int32) → Prop) : Prop := w_X3_swingUp_2 r0 FU a (nI 0) M (fun y10 M11 => Q M11)
set_option maxHeartbeats 4000000 in
set_option maxRecDepth 100000 in
theorem mw_X3_swingUp {E : EN} {r0 : Nat} {a : Int32} {M : Nat → Nat → Int32} {Q : (Nat → Nat → Int32) → Prop} (h0 : isH r0) (hs : w_X3_swingUp r0 a M Q) : MW E iX3_swingUp 1 0 0 false [.ref r0, .int a] σC 46 M (qV σC 46 Q) := by
  refine mw_intro (ls := [(0, .ref r0), (1, .int a)]) rfl (by decide +kernel) rfl rfl (Nat.le_of_ble_eq_true rfl) ?_
  have hQ : ∀ M, Q M → (qV σC 46 Q) none σC 46 M := fun _ h => ⟨rfl, rfl, rfl, h⟩
  generalize (qV σC 46 Q) = Qf at hQ ⊢
  unfold w_X3_swingUp at hs
  refine wp_iconst (v := (nI 0)) dX3_swingUp_0 (by decide) ?_
  refine wp_istore_n (ls' := [(0, .ref r0), (1, .int a), (2, .int (nI 0))]) [1, 2, 0] dX3_swingUp_1 rfl (by decide) ?_
  refine wp_sub (ls' := [(0, .ref r0), (1, .int a), (2, .int (nI 0))]) [0, 1, 2] rfl ?_
  refine lp_X3_swingUp_2 h0 (K := fun y10 M11 => Q M11) (fun y10 M11 hs => ?_) FU _ _ hs
  exact wp_return rfl dX3_swingUp_75 (hQ _ hs)
abbrev iX3_farEndX : MI := (cX3_farEndX, 2, some .int, RX3, yX3_farEndX, wsX3_farEndX)
theorem hy_X3_farEndX : yX3_farEndX.cls = RX3 ∧ yX3_farEndX.cls ≠ "java/lang/invoke/MethodHandle" ∧ yX3_farEndX.cls ≠ "java/lang/invoke/VarHandle" ∧ (parseMethodDescriptor yX3_farEndX.desc).map (fun d => d.parameters.length) = some 1 := by decide +kernel
theorem in_X3_farEndX_X3 : ∀ w ∈ u_ws RX3 TX3 11, w ∈ wsX3_farEndX := by decide +kernel
theorem fl_X3_farEndX_24 : Cond.fieldLink RX3 24 (TX3 9).1 (TX3 9).2.1 (TX3 9).2.2.1 ∈ wsX3_farEndX := by decide +kernel
def w_X3_farEndX (r0 : Nat) (a : Int32) (M : Nat → Nat → Int32) (Q : Int32 → (Nat → Nat → Int32) → Prop) : Prop := ((a < 0 → Q (nI 0) M) ∧ (¬ a < 0 → (((nI 8) ≤ a → Q (nI 0) M) ∧ (¬ (nI 8) ≤ a → (vp_in a 8 ∧ Q (M (r0 + 5) a.toNatClampNeg) M)))))
set_option maxHeartbeats 4000000 in
set_option maxRecDepth 100000 in
theorem mw_X3_farEndX {E : EN} {r0 : Nat} {a : Int32} {M : Nat → Nat → Int32} {Q : Int32 → (Nat → Nat → Int32) → Prop} (h0 : isH r0) (hs : w_X3_farEndX r0 a M Q) : MW E iX3_farEndX 1 0 0 false [.ref r0, .int a] σC 46 M (qI σC 46 Q) := by
  refine mw_intro (ls := [(0, .ref r0), (1, .int a)]) rfl (by decide +kernel) rfl rfl (Nat.le_of_ble_eq_true rfl) ?_
  have hQ : ∀ x M, Q x M → (qI σC 46 Q) (some (.int x)) σC 46 M := fun _ _ h => ⟨_, rfl, rfl, rfl, h⟩
  generalize (qI σC 46 Q) = Qf at hQ ⊢
  unfold w_X3_farEndX at hs
  refine wp_iload_n 1 dX3_farEndX_0 rfl ?_
  refine wp_if_lt (tgt := 19) dX3_farEndX_1 (by decide) (fun c1 => ?_) (fun c1 => ?_)
  · have hs := hs.1 c1
    refine wp_iconst (v := (nI 0)) dX3_farEndX_19 (by decide) ?_
    exact wp_ireturn rfl rfl dX3_farEndX_20 (hQ _ _ hs)
  · have hs := hs.2 c1
    refine wp_iload_n 1 dX3_farEndX_4 rfl ?_
    refine wp_bipush (v := (nI 8)) dX3_farEndX_5 (by decide) ?_
    refine wp_icmp_ge (tgt := 19) dX3_farEndX_7 (by decide) (fun c2 => ?_) (fun c2 => ?_)
    · have hs := hs.1 c2
      refine wp_iconst (v := (nI 0)) dX3_farEndX_19 (by decide) ?_
      exact wp_ireturn rfl rfl dX3_farEndX_20 (hQ _ _ hs)
    · have hs := hs.2 c2
      refine wp_aload_n 0 dX3_farEndX_10 rfl ?_
      refine wp_get (v := .ref (r0 + 5)) dX3_farEndX_11 (σ_isH h0) (lt_isH h0) rfl in_X3_farEndX_X3 9 (by decide) fl_X3_farEndX_24 rfl rfl ?_
      refine wp_iload_n 1 dX3_farEndX_14 rfl ?_
      have hv := hs.1
      have hs := hs.2
      refine wp_iald (σ_isH5 h0) (lt_isH5 h0) hv dX3_farEndX_15 ?_
      refine wp_goto (tgt := 20) dX3_farEndX_16 (by decide) ?_
      exact wp_ireturn rfl rfl dX3_farEndX_20 (hQ _ _ hs)
abbrev iX3_farEndY : MI := (cX3_farEndY, 2, some .int, RX3, yX3_farEndY, wsX3_farEndY)
theorem hy_X3_farEndY : yX3_farEndY.cls = RX3 ∧ yX3_farEndY.cls ≠ "java/lang/invoke/MethodHandle" ∧ yX3_farEndY.cls ≠ "java/lang/invoke/VarHandle" ∧ (parseMethodDescriptor yX3_farEndY.desc).map (fun d => d.parameters.length) = some 1 := by decide +kernel
theorem in_X3_farEndY_X3 : ∀ w ∈ u_ws RX3 TX3 11, w ∈ wsX3_farEndY := by decide +kernel
theorem fl_X3_farEndY_27 : Cond.fieldLink RX3 27 (TX3 10).1 (TX3 10).2.1 (TX3 10).2.2.1 ∈ wsX3_farEndY := by decide +kernel
def w_X3_farEndY (r0 : Nat) (a : Int32) (M : Nat → Nat → Int32) (Q : Int32 → (Nat → Nat → Int32) → Prop) : Prop := ((a < 0 → Q (nI 0) M) ∧ (¬ a < 0 → (((nI 8) ≤ a → Q (nI 0) M) ∧ (¬ (nI 8) ≤ a → (vp_in a 8 ∧ Q (M (r0 + 6) a.toNatClampNeg) M)))))
set_option maxHeartbeats 4000000 in
set_option maxRecDepth 100000 in
theorem mw_X3_farEndY {E : EN} {r0 : Nat} {a : Int32} {M : Nat → Nat → Int32} {Q : Int32 → (Nat → Nat → Int32) → Prop} (h0 : isH r0) (hs : w_X3_farEndY r0 a M Q) : MW E iX3_farEndY 1 0 0 false [.ref r0, .int a] σC 46 M (qI σC 46 Q) := by
  refine mw_intro (ls := [(0, .ref r0), (1, .int a)]) rfl (by decide +kernel) rfl rfl (Nat.le_of_ble_eq_true rfl) ?_
  have hQ : ∀ x M, Q x M → (qI σC 46 Q) (some (.int x)) σC 46 M := fun _ _ h => ⟨_, rfl, rfl, rfl, h⟩
  generalize (qI σC 46 Q) = Qf at hQ ⊢
  unfold w_X3_farEndY at hs
  refine wp_iload_n 1 dX3_farEndY_0 rfl ?_
  refine wp_if_lt (tgt := 19) dX3_farEndY_1 (by decide) (fun c1 => ?_) (fun c1 => ?_)
  · have hs := hs.1 c1
    refine wp_iconst (v := (nI 0)) dX3_farEndY_19 (by decide) ?_
    exact wp_ireturn rfl rfl dX3_farEndY_20 (hQ _ _ hs)
  · have hs := hs.2 c1
    refine wp_iload_n 1 dX3_farEndY_4 rfl ?_
    refine wp_bipush (v := (nI 8)) dX3_farEndY_5 (by decide) ?_
    refine wp_icmp_ge (tgt := 19) dX3_farEndY_7 (by decide) (fun c2 => ?_) (fun c2 => ?_)
    · have hs := hs.1 c2
      refine wp_iconst (v := (nI 0)) dX3_farEndY_19 (by decide) ?_
      exact wp_ireturn rfl rfl dX3_farEndY_20 (hQ _ _ hs)
    · have hs := hs.2 c2
      refine wp_aload_n 0 dX3_farEndY_10 rfl ?_
      refine wp_get (v := .ref (r0 + 6)) dX3_farEndY_11 (σ_isH h0) (lt_isH h0) rfl in_X3_farEndY_X3 10 (by decide) fl_X3_farEndY_27 rfl rfl ?_
      refine wp_iload_n 1 dX3_farEndY_14 rfl ?_
      have hv := hs.1
      have hs := hs.2
      refine wp_iald (σ_isH6 h0) (lt_isH6 h0) hv dX3_farEndY_15 ?_
      refine wp_goto (tgt := 20) dX3_farEndY_16 (by decide) ?_
      exact wp_ireturn rfl rfl dX3_farEndY_20 (hQ _ _ hs)
abbrev iX5_append : MI := (cX5_append, 2, none, RX5, yX5_append, wsX5_append)
theorem hy_X5_append : yX5_append.cls = RX5 ∧ yX5_append.cls ≠ "java/lang/invoke/MethodHandle" ∧ yX5_append.cls ≠ "java/lang/invoke/VarHandle" ∧ (parseMethodDescriptor yX5_append.desc).map (fun d => d.parameters.length) = some 1 := by decide +kernel
theorem in_X5_append_X5 : ∀ w ∈ u_ws RX5 TX5 2, w ∈ wsX5_append := by decide +kernel
theorem fl_X5_append_9 : Cond.fieldLink RX5 9 (TX5 0).1 (TX5 0).2.1 (TX5 0).2.2.1 ∈ wsX5_append := by decide +kernel
theorem fl_X5_append_15 : Cond.fieldLink RX5 15 (TX5 1).1 (TX5 1).2.1 (TX5 1).2.2.1 ∈ wsX5_append := by decide +kernel
def w_X5_append (a : Int32) (M : Nat → Nat → Int32) (Q : (Nat → Nat → Int32) → Prop) : Prop := (((M 21 0) < 0 → Q M) ∧ (¬ (M 21 0) < 0 → (((nI 60) ≤ (M 21 0) → Q M) ∧ (¬ (nI 60) ≤ (M 21 0) → (vp_in (M 21 0) 60 ∧ ∀ M3 : Nat → Nat → Int32, M3 = um M 22 (upd (M 22) (M 21 0).toNatClampNeg (vp_nar .char a)) → ∀ M4 : Nat → Nat → Int32, M4 = um M3 21 (upd (M3 21) 0 ((M3 21 0) + (nI 1))) → Q M4)))))
set_option maxHeartbeats 4000000 in
set_option maxRecDepth 100000 in
theorem mw_X5_append {E : EN} {a : Int32} {M : Nat → Nat → Int32} {Q : (Nat → Nat → Int32) → Prop} (hs : w_X5_append a M Q) : MW E iX5_append 1 0 0 false [.ref 21, .int a] σC 46 M (qV σC 46 Q) := by
  refine mw_intro (ls := [(0, .ref 21), (1, .int a)]) rfl (by decide +kernel) rfl rfl (Nat.le_of_ble_eq_true rfl) ?_
  have hQ : ∀ M, Q M → (qV σC 46 Q) none σC 46 M := fun _ h => ⟨rfl, rfl, rfl, h⟩
  generalize (qV σC 46 Q) = Qf at hQ ⊢
  unfold w_X5_append at hs
  refine wp_aload_n 0 dX5_append_0 rfl ?_
  refine wp_get (v := .int (M 21 0)) dX5_append_1 rfl (by decide) rfl in_X5_append_X5 0 (by decide) fl_X5_append_9 rfl rfl ?_
  refine wp_if_lt (tgt := 39) dX5_append_4 (by decide) (fun c1 => ?_) (fun c1 => ?_)
  · have hs := hs.1 c1
    exact wp_return rfl dX5_append_39 (hQ _ hs)
  · have hs := hs.2 c1
    refine wp_aload_n 0 dX5_append_7 rfl ?_
    refine wp_get (v := .int (M 21 0)) dX5_append_8 rfl (by decide) rfl in_X5_append_X5 0 (by decide) fl_X5_append_9 rfl rfl ?_
    refine wp_aload_n 0 dX5_append_11 rfl ?_
    refine wp_get (v := .ref 22) dX5_append_12 rfl (by decide) rfl in_X5_append_X5 1 (by decide) fl_X5_append_15 rfl rfl ?_
    refine wp_alen (v := nI 60) rfl (by decide) (by decide) (by decide) dX5_append_15 ?_
    refine wp_icmp_ge (tgt := 39) dX5_append_16 (by decide) (fun c2 => ?_) (fun c2 => ?_)
    · have hs := hs.1 c2
      exact wp_return rfl dX5_append_39 (hQ _ hs)
    · have hs := hs.2 c2
      refine wp_aload_n 0 dX5_append_19 rfl ?_
      refine wp_get (v := .ref 22) dX5_append_20 rfl (by decide) rfl in_X5_append_X5 1 (by decide) fl_X5_append_15 rfl rfl ?_
      refine wp_aload_n 0 dX5_append_23 rfl ?_
      refine wp_get (v := .int (M 21 0)) dX5_append_24 rfl (by decide) rfl in_X5_append_X5 0 (by decide) fl_X5_append_9 rfl rfl ?_
      refine wp_iload_n 1 dX5_append_27 rfl ?_
      have hv := hs.1
      have hs := hs.2
      refine wp_cast rfl (by decide) hv dX5_append_28 (fun M3 eM3 => ?_)
      have hs := hs M3 eM3
      refine wp_aload_n 0 dX5_append_29 rfl ?_
      refine wp_dup rfl dX5_append_30 ?_
      refine wp_get (v := .int (M3 21 0)) dX5_append_31 rfl (by decide) rfl in_X5_append_X5 0 (by decide) fl_X5_append_9 rfl rfl ?_
      refine wp_iconst (v := (nI 1)) dX5_append_34 (by decide) ?_
      refine wp_iadd dX5_append_35 ?_
      refine wp_put (ty := .int) tyX5 tyX5_ok nmX5 rfl (by decide) rfl in_X5_append_X5 0 (by decide) fl_X5_append_9 rfl rfl (by decide +kernel) rfl rfl dX5_append_36 (fun M4 eM4 => ?_)
      have hs := hs M4 eM4
      exact wp_return rfl dX5_append_39 (hQ _ hs)
abbrev iX5_signAt : MI := (cX5_signAt, 2, some .char, RX5, yX5_signAt, wsX5_signAt)
theorem hy_X5_signAt : yX5_signAt.cls = RX5 ∧ yX5_signAt.cls ≠ "java/lang/invoke/MethodHandle" ∧ yX5_signAt.cls ≠ "java/lang/invoke/VarHandle" ∧ (parseMethodDescriptor yX5_signAt.desc).map (fun d => d.parameters.length) = some 1 := by decide +kernel
theorem in_X5_signAt_X5 : ∀ w ∈ u_ws RX5 TX5 2, w ∈ wsX5_signAt := by decide +kernel
theorem fl_X5_signAt_9 : Cond.fieldLink RX5 9 (TX5 0).1 (TX5 0).2.1 (TX5 0).2.2.1 ∈ wsX5_signAt := by decide +kernel
theorem fl_X5_signAt_15 : Cond.fieldLink RX5 15 (TX5 1).1 (TX5 1).2.1 (TX5 1).2.2.1 ∈ wsX5_signAt := by decide +kernel
def w_X5_signAt (a : Int32) (M : Nat → Nat → Int32) (Q : Int32 → (Nat → Nat → Int32) → Prop) : Prop := ((a < 0 → Q (nI 0) M) ∧ (¬ a < 0 → (((M 21 0) ≤ a → Q (nI 0) M) ∧ (¬ (M 21 0) ≤ a → (((nI 60) ≤ a → Q (nI 0) M) ∧ (¬ (nI 60) ≤ a → (vp_in a 60 ∧ (zc (M 22 a.toNatClampNeg) ∧ Q (M 22 a.toNatClampNeg) M))))))))
set_option maxHeartbeats 4000000 in
set_option maxRecDepth 100000 in
theorem mw_X5_signAt {E : EN} {a : Int32} {M : Nat → Nat → Int32} {Q : Int32 → (Nat → Nat → Int32) → Prop} (hs : w_X5_signAt a M Q) : MW E iX5_signAt 1 0 0 false [.ref 21, .int a] σC 46 M (qI σC 46 Q) := by
  refine mw_intro (ls := [(0, .ref 21), (1, .int a)]) rfl (by decide +kernel) rfl rfl (Nat.le_of_ble_eq_true rfl) ?_
  have hQ : ∀ x M, Q x M → (qI σC 46 Q) (some (.int x)) σC 46 M := fun _ _ h => ⟨_, rfl, rfl, rfl, h⟩
  generalize (qI σC 46 Q) = Qf at hQ ⊢
  unfold w_X5_signAt at hs
  refine wp_iload_n 1 dX5_signAt_0 rfl ?_
  refine wp_if_lt (tgt := 30) dX5_signAt_1 (by decide) (fun c1 => ?_) (fun c1 => ?_)
  · have hs := hs.1 c1
    refine wp_iconst (v := (nI 0)) dX5_signAt_30 (by decide) ?_
    exact wp_ireturn rfl rfl dX5_signAt_31 (hQ _ _ hs)
  · have hs := hs.2 c1
    refine wp_iload_n 1 dX5_signAt_4 rfl ?_
    refine wp_aload_n 0 dX5_signAt_5 rfl ?_
    refine wp_get (v := .int (M 21 0)) dX5_signAt_6 rfl (by decide) rfl in_X5_signAt_X5 0 (by decide) fl_X5_signAt_9 rfl rfl ?_
    refine wp_icmp_ge (tgt := 30) dX5_signAt_9 (by decide) (fun c2 => ?_) (fun c2 => ?_)
    · have hs := hs.1 c2
      refine wp_iconst (v := (nI 0)) dX5_signAt_30 (by decide) ?_
      exact wp_ireturn rfl rfl dX5_signAt_31 (hQ _ _ hs)
    · have hs := hs.2 c2
      refine wp_iload_n 1 dX5_signAt_12 rfl ?_
      refine wp_aload_n 0 dX5_signAt_13 rfl ?_
      refine wp_get (v := .ref 22) dX5_signAt_14 rfl (by decide) rfl in_X5_signAt_X5 1 (by decide) fl_X5_signAt_15 rfl rfl ?_
      refine wp_alen (v := nI 60) rfl (by decide) (by decide) (by decide) dX5_signAt_17 ?_
      refine wp_icmp_ge (tgt := 30) dX5_signAt_18 (by decide) (fun c3 => ?_) (fun c3 => ?_)
      · have hs := hs.1 c3
        refine wp_iconst (v := (nI 0)) dX5_signAt_30 (by decide) ?_
        exact wp_ireturn rfl rfl dX5_signAt_31 (hQ _ _ hs)
      · have hs := hs.2 c3
        refine wp_aload_n 0 dX5_signAt_21 rfl ?_
        refine wp_get (v := .ref 22) dX5_signAt_22 rfl (by decide) rfl in_X5_signAt_X5 1 (by decide) fl_X5_signAt_15 rfl rfl ?_
        refine wp_iload_n 1 dX5_signAt_25 rfl ?_
        have hv := hs.1
        have hs := hs.2
        refine wp_cald rfl (by decide) hv dX5_signAt_26 ?_
        refine wp_goto (tgt := 31) dX5_signAt_27 (by decide) ?_
        have hz := hs.1
        have hs := hs.2
        exact wp_ireturn rfl hz dX5_signAt_31 (hQ _ _ hs)
abbrev iX5_pairs : MI := (cX5_pairs, 1, some .int, RX5, yX5_pairs, wsX5_pairs)
theorem hy_X5_pairs : yX5_pairs.cls = RX5 ∧ yX5_pairs.cls ≠ "java/lang/invoke/MethodHandle" ∧ yX5_pairs.cls ≠ "java/lang/invoke/VarHandle" ∧ (parseMethodDescriptor yX5_pairs.desc).map (fun d => d.parameters.length) = some 0 := by decide +kernel
theorem in_X5_pairs_X5 : ∀ w ∈ u_ws RX5 TX5 2, w ∈ wsX5_pairs := by decide +kernel
theorem fl_X5_pairs_9 : Cond.fieldLink RX5 9 (TX5 0).1 (TX5 0).2.1 (TX5 0).2.2.1 ∈ wsX5_pairs := by decide +kernel
def w_X5_pairs (M : Nat → Nat → Int32) (Q : Int32 → (Nat → Nat → Int32) → Prop) : Prop := Q ((M 21 0) / (nI 2)) M
set_option maxHeartbeats 4000000 in
set_option maxRecDepth 100000 in
theorem mw_X5_pairs {E : EN} {M : Nat → Nat → Int32} {Q : Int32 → (Nat → Nat → Int32) → Prop} (hs : w_X5_pairs M Q) : MW E iX5_pairs 1 0 0 false [.ref 21] σC 46 M (qI σC 46 Q) := by
  refine mw_intro (ls := [(0, .ref 21)]) rfl (by decide +kernel) rfl rfl (Nat.le_of_ble_eq_true rfl) ?_
  have hQ : ∀ x M, Q x M → (qI σC 46 Q) (some (.int x)) σC 46 M := fun _ _ h => ⟨_, rfl, rfl, rfl, h⟩
  generalize (qI σC 46 Q) = Qf at hQ ⊢
  unfold w_X5_pairs at hs
  refine wp_aload_n 0 dX5_pairs_0 rfl ?_
  refine wp_get (v := .int (M 21 0)) dX5_pairs_1 rfl (by decide) rfl in_X5_pairs_X5 0 (by decide) fl_X5_pairs_9 rfl rfl ?_
  refine wp_iconst (v := (nI 2)) dX5_pairs_4 (by decide) ?_
  refine wp_idiv dX5_pairs_5 (by decide) ?_
  exact wp_ireturn rfl rfl dX5_pairs_6 (hQ _ _ hs)
abbrev iX5_isAllowed : MI := (cX5_isAllowed, 3, some .boolean, RX5, yX5_isAllowed, wsX5_isAllowed)
theorem hy_X5_isAllowed : yX5_isAllowed.cls = RX5 ∧ yX5_isAllowed.cls ≠ "java/lang/invoke/MethodHandle" ∧ yX5_isAllowed.cls ≠ "java/lang/invoke/VarHandle" ∧ (parseMethodDescriptor yX5_isAllowed.desc).map (fun d => d.parameters.length) = some 1 := by decide +kernel
def w_X5_isAllowed (a : Int32) (M : Nat → Nat → Int32) (Q : Int32 → (Nat → Nat → Int32) → Prop) : Prop := w_X5_signAt a M (fun v2 M1 => ((a ≤ (nI 14) → ((¬ (a - a / (nI 2) * (nI 2)) = 0 → ((v2 = (nI 117) → Q (nI 1) M1) ∧ (¬ v2 = (nI 117) → ((¬ v2 = (nI 100) → Q (nI 0) M1) ∧ (v2 = (nI 100) → Q (nI 1) M1))))) ∧ ((a - a / (nI 2) * (nI 2)) = 0 → ((v2 < (nI 49) → Q (nI 0) M1) ∧ (¬ v2 < (nI 49) → (((nI 57) < v2 → Q (nI 0) M1) ∧ (¬ (nI 57) < v2 → Q (nI 1) M1))))))) ∧ (¬ a ≤ (nI 14) → Q (nI 0) M1)))
set_option maxHeartbeats 4000000 in
set_option maxRecDepth 100000 in
theorem mw_X5_isAllowed {E : EN} {a : Int32} {M : Nat → Nat → Int32} {Q : Int32 → (Nat → Nat → Int32) → Prop} (hs : w_X5_isAllowed a M Q) : MW E iX5_isAllowed 2 0 0 false [.ref 21, .int a] σC 46 M (qI σC 46 Q) := by
  refine mw_intro (ls := [(0, .ref 21), (1, .int a)]) rfl (by decide +kernel) rfl rfl (Nat.le_of_ble_eq_true rfl) ?_
  have hQ : ∀ x M, Q x M → (qI σC 46 Q) (some (.int x)) σC 46 M := fun _ _ h => ⟨_, rfl, rfl, rfl, h⟩
  generalize (qI σC 46 Q) = Qf at hQ ⊢
  unfold w_X5_isAllowed at hs
  refine wp_aload_n 0 dX5_isAllowed_0 rfl ?_
  refine wp_iload_n 1 dX5_isAllowed_1 rfl ?_
  refine wp_cVi (As := [.int a]) (st := []) (mw_X5_signAt  hs) gX5_isAllowed_X5_signAt rfl hy_X5_signAt rfl rfl (by decide) rfl (by decide) (by decide) (Nat.le_of_ble_eq_true rfl) rfl dX5_isAllowed_2 (fun v2 M1 hs => ?_)
  refine wp_istore_n (ls' := [(0, .ref 21), (1, .int a), (2, .int v2)]) [1, 2, 0] dX5_isAllowed_5 rfl (by decide) ?_
  refine wp_iload_n 1 dX5_isAllowed_6 rfl ?_
  refine wp_bipush (v := (nI 14)) dX5_isAllowed_7 (by decide) ?_
  refine wp_icmp_le (tgt := 14) dX5_isAllowed_9 (by decide) (fun c3 => ?_) (fun c3 => ?_)
  · have hs := hs.1 c3
    refine wp_iload_n 1 dX5_isAllowed_14 rfl ?_
    refine wp_iconst (v := (nI 2)) dX5_isAllowed_15 (by decide) ?_
    refine wp_irem dX5_isAllowed_16 (by decide) ?_
    refine wp_if_ne (tgt := 40) dX5_isAllowed_17 (by decide) (fun c4 => ?_) (fun c4 => ?_)
    · have hs := hs.1 c4
      refine wp_iload_n 2 dX5_isAllowed_40 rfl ?_
      refine wp_bipush (v := (nI 117)) dX5_isAllowed_41 (by decide) ?_
      refine wp_icmp_eq (tgt := 52) dX5_isAllowed_43 (by decide) (fun c5 => ?_) (fun c5 => ?_)
      · have hs := hs.1 c5
        refine wp_iconst (v := (nI 1)) dX5_isAllowed_52 (by decide) ?_
        refine wp_goto (tgt := 57) dX5_isAllowed_53 (by decide) ?_
        exact wp_ireturn rfl rfl dX5_isAllowed_57 (hQ _ _ hs)
      · have hs := hs.2 c5
        refine wp_iload_n 2 dX5_isAllowed_46 rfl ?_
        refine wp_bipush (v := (nI 100)) dX5_isAllowed_47 (by decide) ?_
        refine wp_icmp_ne (tgt := 56) dX5_isAllowed_49 (by decide) (fun c6 => ?_) (fun c6 => ?_)
        · have hs := hs.1 c6
          refine wp_iconst (v := (nI 0)) dX5_isAllowed_56 (by decide) ?_
          exact wp_ireturn rfl rfl dX5_isAllowed_57 (hQ _ _ hs)
        · have hs := hs.2 c6
          refine wp_iconst (v := (nI 1)) dX5_isAllowed_52 (by decide) ?_
          refine wp_goto (tgt := 57) dX5_isAllowed_53 (by decide) ?_
          exact wp_ireturn rfl rfl dX5_isAllowed_57 (hQ _ _ hs)
    · have hs := hs.2 c4
      refine wp_iload_n 2 dX5_isAllowed_20 rfl ?_
      refine wp_bipush (v := (nI 49)) dX5_isAllowed_21 (by decide) ?_
      refine wp_icmp_lt (tgt := 36) dX5_isAllowed_23 (by decide) (fun c7 => ?_) (fun c7 => ?_)
      · have hs := hs.1 c7
        refine wp_iconst (v := (nI 0)) dX5_isAllowed_36 (by decide) ?_
        refine wp_goto (tgt := 57) dX5_isAllowed_37 (by decide) ?_
        exact wp_ireturn rfl rfl dX5_isAllowed_57 (hQ _ _ hs)
      · have hs := hs.2 c7
        refine wp_iload_n 2 dX5_isAllowed_26 rfl ?_
        refine wp_bipush (v := (nI 57)) dX5_isAllowed_27 (by decide) ?_
        refine wp_icmp_gt (tgt := 36) dX5_isAllowed_29 (by decide) (fun c8 => ?_) (fun c8 => ?_)
        · have hs := hs.1 c8
          refine wp_iconst (v := (nI 0)) dX5_isAllowed_36 (by decide) ?_
          refine wp_goto (tgt := 57) dX5_isAllowed_37 (by decide) ?_
          exact wp_ireturn rfl rfl dX5_isAllowed_57 (hQ _ _ hs)
        · have hs := hs.2 c8
          refine wp_iconst (v := (nI 1)) dX5_isAllowed_32 (by decide) ?_
          refine wp_goto (tgt := 57) dX5_isAllowed_33 (by decide) ?_
          exact wp_ireturn rfl rfl dX5_isAllowed_57 (hQ _ _ hs)
  · have hs := hs.2 c3
    refine wp_iconst (v := (nI 0)) dX5_isAllowed_12 (by decide) ?_
    exact wp_ireturn rfl rfl dX5_isAllowed_13 (hQ _ _ hs)
abbrev iX5_fault : MI := (cX5_fault, 2, some .int, RX5, yX5_fault, wsX5_fault)
theorem hy_X5_fault : yX5_fault.cls = RX5 ∧ yX5_fault.cls ≠ "java/lang/invoke/MethodHandle" ∧ yX5_fault.cls ≠ "java/lang/invoke/VarHandle" ∧ (parseMethodDescriptor yX5_fault.desc).map (fun d => d.parameters.length) = some 0 := by decide +kernel
theorem in_X5_fault_X5 : ∀ w ∈ u_ws RX5 TX5 2, w ∈ wsX5_fault := by decide +kernel
theorem fl_X5_fault_9 : Cond.fieldLink RX5 9 (TX5 0).1 (TX5 0).2.1 (TX5 0).2.2.1 ∈ wsX5_fault := by decide +kernel
def w_X5_fault_2 : Nat → Int32 → (Nat → Nat → Int32) → (Int32 → (Nat → Nat → Int32) → Prop) → (Int32 → (Nat → Nat → Int32) → Prop) → Prop
  | 0, _, _, _, _ => False
  | n + 1, x1, M, Q, K => (((M 21 0) ≤ x1 → K x1 M) ∧ (¬ (M 21 0) ≤ x1 → w_X5_isAllowed x1 M (fun v3 M2 => ((¬ v3 = 0 → ∀ y5 : Int32, y5 = x1 + (nI 1) → w_X5_fault_2 n y5 M2 Q K) ∧ (v3 = 0 → Q x1 M2)))))
set_option maxHeartbeats 4000000 in
set_option maxRecDepth 100000 in
theorem lp_X5_fault_2 {E : EN} {Qf : PST} {Q : Int32 → (Nat → Nat → Int32) → Prop} {K : Int32 → (Nat → Nat → Int32) → Prop} (hQ : ∀ x M, Q x M → Qf (some (.int x)) σC 46 M) (hK : ∀ (z1 : Int32) (M : Nat → Nat → Int32), K z1 M → WP E iX5_fault 3 0 0 false 26 [(0, .ref 21)] [] σC 46 M Qf) : ∀ (nn : Nat) (x1 : Int32) (M : Nat → Nat → Int32), w_X5_fault_2 nn x1 M Q K → WP E iX5_fault 3 0 0 false 2 [(0, .ref 21), (1, .int x1)] [] σC 46 M Qf := by
  intro nn
  induction nn with
  | zero => intro x1 M hs; exact hs.elim
  | succ n ih =>
    intro x1 M hs
    unfold w_X5_fault_2 at hs
    refine wp_iload_n 1 dX5_fault_2 rfl ?_
    refine wp_aload_n 0 dX5_fault_3 rfl ?_
    refine wp_get (v := .int (M 21 0)) dX5_fault_4 rfl (by decide) rfl in_X5_fault_X5 0 (by decide) fl_X5_fault_9 rfl rfl ?_
    refine wp_icmp_ge (tgt := 26) dX5_fault_7 (by decide) (fun c1 => ?_) (fun c1 => ?_)
    · have hs := hs.1 c1
      refine wp_sub (ls' := [(0, .ref 21)]) [0] rfl ?_
      exact hK _ _ hs
    · have hs := hs.2 c1
      refine wp_aload_n 0 dX5_fault_10 rfl ?_
      refine wp_iload_n 1 dX5_fault_11 rfl ?_
      refine wp_cVi (As := [.int x1]) (st := []) (mw_X5_isAllowed  hs) gX5_fault_X5_isAllowed rfl hy_X5_isAllowed rfl rfl (by decide) rfl (by decide) (by decide) (Nat.le_of_ble_eq_true rfl) rfl dX5_fault_12 (fun v3 M2 hs => ?_)
      refine wp_if_ne (tgt := 20) dX5_fault_15 (by decide) (fun c4 => ?_) (fun c4 => ?_)
      · have hs := hs.1 c4
        obtain ⟨y5, ey5⟩ : ∃ y : Int32, y = x1 + (nI 1) := ⟨_, rfl⟩
        have hs := hs y5 ey5
        refine wp_iinc (v := y5) (ls' := [(0, .ref 21), (1, .int y5)]) 1 [1, 0] dX5_fault_20 rfl (by rw [ey5]; rfl) rfl (by decide) ?_
        refine wp_goto (tgt := 2) dX5_fault_23 (by decide) ?_
        refine wp_sub (ls' := [(0, .ref 21), (1, .int y5)]) [0, 1] rfl ?_
        exact ih _ _ hs
      · have hs := hs.2 c4
        refine wp_iload_n 1 dX5_fault_18 rfl ?_
        exact wp_ireturn rfl rfl dX5_fault_19 (hQ _ _ hs)
def w_X5_fault (M : Nat → Nat → Int32) (Q : Int32 → (Nat → Nat → Int32) → Prop) : Prop := w_X5_fault_2 FU (nI 0) M Q (fun y6 M7 => (((M7 21 0) < (nI 3) → (((nI 0) = 0 → Q (M7 21 0) M7) ∧ (¬ (nI 0) = 0 → Q (-1 : Int32) M7))) ∧ (¬ (M7 21 0) < (nI 3) → ((¬ ((M7 21 0) - (M7 21 0) / (nI 2) * (nI 2)) = (nI 1) → (((nI 0) = 0 → Q (M7 21 0) M7) ∧ (¬ (nI 0) = 0 → Q (-1 : Int32) M7))) ∧ (((M7 21 0) - (M7 21 0) / (nI 2) * (nI 2)) = (nI 1) → (((nI 1) = 0 → Q (M7 21 0) M7) ∧ (¬ (nI 1) = 0 → Q (-1 : Int32) M7)))))))
set_option maxHeartbeats 4000000 in
set_option maxRecDepth 100000 in
theorem mw_X5_fault {E : EN} {M : Nat → Nat → Int32} {Q : Int32 → (Nat → Nat → Int32) → Prop} (hs : w_X5_fault M Q) : MW E iX5_fault 3 0 0 false [.ref 21] σC 46 M (qI σC 46 Q) := by
  refine mw_intro (ls := [(0, .ref 21)]) rfl (by decide +kernel) rfl rfl (Nat.le_of_ble_eq_true rfl) ?_
  have hQ : ∀ x M, Q x M → (qI σC 46 Q) (some (.int x)) σC 46 M := fun _ _ h => ⟨_, rfl, rfl, rfl, h⟩
  generalize (qI σC 46 Q) = Qf at hQ ⊢
  unfold w_X5_fault at hs
  refine wp_iconst (v := (nI 0)) dX5_fault_0 (by decide) ?_
  refine wp_istore_n (ls' := [(0, .ref 21), (1, .int (nI 0))]) [1, 0] dX5_fault_1 rfl (by decide) ?_
  refine wp_sub (ls' := [(0, .ref 21), (1, .int (nI 0))]) [0, 1] rfl ?_
  refine lp_X5_fault_2 hQ (K := fun y6 M7 => (((M7 21 0) < (nI 3) → (((nI 0) = 0 → Q (M7 21 0) M7) ∧ (¬ (nI 0) = 0 → Q (-1 : Int32) M7))) ∧ (¬ (M7 21 0) < (nI 3) → ((¬ ((M7 21 0) - (M7 21 0) / (nI 2) * (nI 2)) = (nI 1) → (((nI 0) = 0 → Q (M7 21 0) M7) ∧ (¬ (nI 0) = 0 → Q (-1 : Int32) M7))) ∧ (((M7 21 0) - (M7 21 0) / (nI 2) * (nI 2)) = (nI 1) → (((nI 1) = 0 → Q (M7 21 0) M7) ∧ (¬ (nI 1) = 0 → Q (-1 : Int32) M7))))))) (fun y6 M7 hs => ?_) FU _ _ hs
  refine wp_aload_n 0 dX5_fault_26 rfl ?_
  refine wp_get (v := .int (M7 21 0)) dX5_fault_27 rfl (by decide) rfl in_X5_fault_X5 0 (by decide) fl_X5_fault_9 rfl rfl ?_
  refine wp_iconst (v := (nI 3)) dX5_fault_30 (by decide) ?_
  refine wp_icmp_lt (tgt := 48) dX5_fault_31 (by decide) (fun c8 => ?_) (fun c8 => ?_)
  · have hs := hs.1 c8
    refine wp_iconst (v := (nI 0)) dX5_fault_48 (by decide) ?_
    refine wp_istore_n (ls' := [(0, .ref 21), (1, .int (nI 0))]) [1, 0] dX5_fault_49 rfl (by decide) ?_
    refine wp_iload_n 1 dX5_fault_50 rfl ?_
    refine wp_if_eq (tgt := 58) dX5_fault_51 (by decide) (fun c9 => ?_) (fun c9 => ?_)
    · have hs := hs.1 c9
      refine wp_aload_n 0 dX5_fault_58 rfl ?_
      refine wp_get (v := .int (M7 21 0)) dX5_fault_59 rfl (by decide) rfl in_X5_fault_X5 0 (by decide) fl_X5_fault_9 rfl rfl ?_
      exact wp_ireturn rfl rfl dX5_fault_62 (hQ _ _ hs)
    · have hs := hs.2 c9
      refine wp_iconst (v := (-1 : Int32)) dX5_fault_54 (by decide) ?_
      refine wp_goto (tgt := 62) dX5_fault_55 (by decide) ?_
      exact wp_ireturn rfl rfl dX5_fault_62 (hQ _ _ hs)
  · have hs := hs.2 c8
    refine wp_aload_n 0 dX5_fault_34 rfl ?_
    refine wp_get (v := .int (M7 21 0)) dX5_fault_35 rfl (by decide) rfl in_X5_fault_X5 0 (by decide) fl_X5_fault_9 rfl rfl ?_
    refine wp_iconst (v := (nI 2)) dX5_fault_38 (by decide) ?_
    refine wp_irem dX5_fault_39 (by decide) ?_
    refine wp_iconst (v := (nI 1)) dX5_fault_40 (by decide) ?_
    refine wp_icmp_ne (tgt := 48) dX5_fault_41 (by decide) (fun c10 => ?_) (fun c10 => ?_)
    · have hs := hs.1 c10
      refine wp_iconst (v := (nI 0)) dX5_fault_48 (by decide) ?_
      refine wp_istore_n (ls' := [(0, .ref 21), (1, .int (nI 0))]) [1, 0] dX5_fault_49 rfl (by decide) ?_
      refine wp_iload_n 1 dX5_fault_50 rfl ?_
      refine wp_if_eq (tgt := 58) dX5_fault_51 (by decide) (fun c11 => ?_) (fun c11 => ?_)
      · have hs := hs.1 c11
        refine wp_aload_n 0 dX5_fault_58 rfl ?_
        refine wp_get (v := .int (M7 21 0)) dX5_fault_59 rfl (by decide) rfl in_X5_fault_X5 0 (by decide) fl_X5_fault_9 rfl rfl ?_
        exact wp_ireturn rfl rfl dX5_fault_62 (hQ _ _ hs)
      · have hs := hs.2 c11
        refine wp_iconst (v := (-1 : Int32)) dX5_fault_54 (by decide) ?_
        refine wp_goto (tgt := 62) dX5_fault_55 (by decide) ?_
        exact wp_ireturn rfl rfl dX5_fault_62 (hQ _ _ hs)
    · have hs := hs.2 c10
      refine wp_iconst (v := (nI 1)) dX5_fault_44 (by decide) ?_
      refine wp_goto (tgt := 49) dX5_fault_45 (by decide) ?_
      refine wp_istore_n (ls' := [(0, .ref 21), (1, .int (nI 1))]) [1, 0] dX5_fault_49 rfl (by decide) ?_
      refine wp_iload_n 1 dX5_fault_50 rfl ?_
      refine wp_if_eq (tgt := 58) dX5_fault_51 (by decide) (fun c12 => ?_) (fun c12 => ?_)
      · have hs := hs.1 c12
        refine wp_aload_n 0 dX5_fault_58 rfl ?_
        refine wp_get (v := .int (M7 21 0)) dX5_fault_59 rfl (by decide) rfl in_X5_fault_X5 0 (by decide) fl_X5_fault_9 rfl rfl ?_
        exact wp_ireturn rfl rfl dX5_fault_62 (hQ _ _ hs)
      · have hs := hs.2 c12
        refine wp_iconst (v := (-1 : Int32)) dX5_fault_54 (by decide) ?_
        refine wp_goto (tgt := 62) dX5_fault_55 (by decide) ?_
        exact wp_ireturn rfl rfl dX5_fault_62 (hQ _ _ hs)
