abbrev iX6_takeStrip : MI := (cX6_takeStrip, 3, some .int, RX6, yX6_takeStrip, wsX6_takeStrip)
theorem hy_X6_takeStrip : yX6_takeStrip.cls = RX6 ∧ yX6_takeStrip.cls ≠ "java/lang/invoke/MethodHandle" ∧ yX6_takeStrip.cls ≠ "java/lang/invoke/VarHandle" ∧ (parseMethodDescriptor yX6_takeStrip.desc).map (fun d => d.parameters.length) = some 0 := by decide +kernel
theorem in_X6_takeStrip_X4 : ∀ w ∈ u_ws RX4 TX4 7, w ∈ wsX6_takeStrip := by decide +kernel
theorem in_X6_takeStrip_X6 : ∀ w ∈ u_ws RX6 TX6 7, w ∈ wsX6_takeStrip := by decide +kernel
theorem fl_X6_takeStrip_10 : Cond.fieldLink RX6 10 (TX6 0).1 (TX6 0).2.1 (TX6 0).2.2.1 ∈ wsX6_takeStrip := by decide +kernel
theorem fl_X6_takeStrip_26 : Cond.fieldLink RX6 26 (TX6 3).1 (TX6 3).2.1 (TX6 3).2.2.1 ∈ wsX6_takeStrip := by decide +kernel
theorem fl_X6_takeStrip_33 : Cond.fieldLink RX6 33 (TX6 4).1 (TX6 4).2.1 (TX6 4).2.2.1 ∈ wsX6_takeStrip := by decide +kernel
theorem fl_X6_takeStrip_66 : Cond.fieldLink RX6 66 (TX4 0).1 (TX4 0).2.1 (TX4 0).2.2.1 ∈ wsX6_takeStrip := by decide +kernel
def w_X6_takeStrip_46 : Nat → Int32 → (Nat → Nat → Int32) → (Int32 → (Nat → Nat → Int32) → Prop) → Prop
  | 0, _, _, _ => False
  | n + 1, x2, M, K => (((M 1 0) < x2 → K x2 M) ∧ (¬ (M 1 0) < x2 → w_X5_signAt ((nI 2) * x2) M (fun v10 M9 => w_X4_putLength 1 x2 (v10 - (nI 48)) M9 (fun M11 => ∀ y12 : Int32, y12 = x2 + (nI 1) → w_X6_takeStrip_46 n y12 M11 K))))
set_option maxHeartbeats 4000000 in
set_option maxRecDepth 100000 in
theorem lp_X6_takeStrip_46 {E : EN} {Qf : PST} {K : Int32 → (Nat → Nat → Int32) → Prop} (hK : ∀ (z2 : Int32) (M : Nat → Nat → Int32), K z2 M → WP E iX6_takeStrip 4 0 0 false 84 [(0, .ref 0)] [] σC 46 M Qf) : ∀ (nn : Nat) (x2 : Int32) (M : Nat → Nat → Int32), w_X6_takeStrip_46 nn x2 M K → WP E iX6_takeStrip 4 0 0 false 46 [(0, .ref 0), (2, .int x2)] [] σC 46 M Qf := by
  intro nn
  induction nn with
  | zero => intro x2 M hs; exact hs.elim
  | succ n ih =>
    intro x2 M hs
    unfold w_X6_takeStrip_46 at hs
    refine wp_iload_n 1 dX6_takeStrip_46 rfl ?_
    refine wp_aload_n 0 dX6_takeStrip_47 rfl ?_
    refine wp_get (v := .ref 1) dX6_takeStrip_48 rfl (by decide) rfl in_X6_takeStrip_X6 0 (by decide) fl_X6_takeStrip_10 rfl rfl ?_
    refine wp_get (v := .int (M 1 0)) dX6_takeStrip_51 (σ_isS (by decide)) (lt_isS (by decide)) rfl in_X6_takeStrip_X4 0 (by decide) fl_X6_takeStrip_66 rfl rfl ?_
    refine wp_icmp_gt (tgt := 84) dX6_takeStrip_54 (by decide) (fun c8 => ?_) (fun c8 => ?_)
    · have hs := hs.1 c8
      refine wp_sub (ls' := [(0, .ref 0)]) [0] rfl ?_
      exact hK _ _ hs
    · have hs := hs.2 c8
      refine wp_aload_n 0 dX6_takeStrip_57 rfl ?_
      refine wp_get (v := .ref 1) dX6_takeStrip_58 rfl (by decide) rfl in_X6_takeStrip_X6 0 (by decide) fl_X6_takeStrip_10 rfl rfl ?_
      refine wp_iload_n 1 dX6_takeStrip_61 rfl ?_
      refine wp_aload_n 0 dX6_takeStrip_62 rfl ?_
      refine wp_get (v := .ref 21) dX6_takeStrip_63 rfl (by decide) rfl in_X6_takeStrip_X6 4 (by decide) fl_X6_takeStrip_33 rfl rfl ?_
      refine wp_iconst (v := (nI 2)) dX6_takeStrip_66 (by decide) ?_
      refine wp_iload_n 1 dX6_takeStrip_67 rfl ?_
      refine wp_imul dX6_takeStrip_68 ?_
      refine wp_cVi (As := [.int ((nI 2) * x2)]) (st := [.int x2, .ref 1]) (mw_X5_signAt  hs) gX6_takeStrip_X5_signAt rfl hy_X5_signAt rfl rfl (by decide) rfl (by decide) (by decide) (Nat.le_of_ble_eq_true rfl) rfl dX6_takeStrip_69 (fun v10 M9 hs => ?_)
      refine wp_bipush (v := (nI 48)) dX6_takeStrip_72 (by decide) ?_
      refine wp_isub dX6_takeStrip_74 ?_
      refine wp_cVv (As := [.int x2, .int (v10 - (nI 48))]) (st := []) (mw_X4_putLength (by decide) hs) gX6_takeStrip_X4_putLength rfl hy_X4_putLength rfl (σ_isS (by decide)) (lt_isS (by decide)) rfl (by decide) (by decide) (Nat.le_of_ble_eq_true rfl) rfl dX6_takeStrip_75 (fun  M11 hs => ?_)
      obtain ⟨y12, ey12⟩ : ∃ y : Int32, y = x2 + (nI 1) := ⟨_, rfl⟩
      have hs := hs y12 ey12
      refine wp_iinc (v := y12) (ls' := [(0, .ref 0), (2, .int y12)]) 1 [1, 0] dX6_takeStrip_78 rfl (by rw [ey12]; rfl) rfl (by decide) ?_
      refine wp_goto (tgt := 46) dX6_takeStrip_81 (by decide) ?_
      refine wp_sub (ls' := [(0, .ref 0), (2, .int y12)]) [0, 1] rfl ?_
      exact ih _ _ hs
def w_X6_takeStrip_86 : Nat → Int32 → (Nat → Nat → Int32) → (Int32 → (Nat → Nat → Int32) → Prop) → Prop
  | 0, _, _, _ => False
  | n + 1, x2, M, K => (((M 1 0) ≤ x2 → K x2 M) ∧ (¬ (M 1 0) ≤ x2 → w_X5_signAt (((nI 2) * x2) + (nI 1)) M (fun v17 M16 => ((¬ v17 = (nI 117) → w_X4_putUp 1 x2 (nI 0) M16 (fun M19 => ∀ y20 : Int32, y20 = x2 + (nI 1) → w_X6_takeStrip_86 n y20 M19 K)) ∧ (v17 = (nI 117) → w_X4_putUp 1 x2 (nI 1) M16 (fun M21 => ∀ y22 : Int32, y22 = x2 + (nI 1) → w_X6_takeStrip_86 n y22 M21 K))))))
set_option maxHeartbeats 4000000 in
set_option maxRecDepth 100000 in
theorem lp_X6_takeStrip_86 {E : EN} {Qf : PST} {K : Int32 → (Nat → Nat → Int32) → Prop} (hK : ∀ (z2 : Int32) (M : Nat → Nat → Int32), K z2 M → WP E iX6_takeStrip 4 0 0 false 133 [(0, .ref 0)] [] σC 46 M Qf) : ∀ (nn : Nat) (x2 : Int32) (M : Nat → Nat → Int32), w_X6_takeStrip_86 nn x2 M K → WP E iX6_takeStrip 4 0 0 false 86 [(0, .ref 0), (2, .int x2)] [] σC 46 M Qf := by
  intro nn
  induction nn with
  | zero => intro x2 M hs; exact hs.elim
  | succ n ih =>
    intro x2 M hs
    unfold w_X6_takeStrip_86 at hs
    refine wp_iload_n 1 dX6_takeStrip_86 rfl ?_
    refine wp_aload_n 0 dX6_takeStrip_87 rfl ?_
    refine wp_get (v := .ref 1) dX6_takeStrip_88 rfl (by decide) rfl in_X6_takeStrip_X6 0 (by decide) fl_X6_takeStrip_10 rfl rfl ?_
    refine wp_get (v := .int (M 1 0)) dX6_takeStrip_91 (σ_isS (by decide)) (lt_isS (by decide)) rfl in_X6_takeStrip_X4 0 (by decide) fl_X6_takeStrip_66 rfl rfl ?_
    refine wp_icmp_ge (tgt := 133) dX6_takeStrip_94 (by decide) (fun c15 => ?_) (fun c15 => ?_)
    · have hs := hs.1 c15
      refine wp_sub (ls' := [(0, .ref 0)]) [0] rfl ?_
      exact hK _ _ hs
    · have hs := hs.2 c15
      refine wp_aload_n 0 dX6_takeStrip_97 rfl ?_
      refine wp_get (v := .ref 1) dX6_takeStrip_98 rfl (by decide) rfl in_X6_takeStrip_X6 0 (by decide) fl_X6_takeStrip_10 rfl rfl ?_
      refine wp_iload_n 1 dX6_takeStrip_101 rfl ?_
      refine wp_aload_n 0 dX6_takeStrip_102 rfl ?_
      refine wp_get (v := .ref 21) dX6_takeStrip_103 rfl (by decide) rfl in_X6_takeStrip_X6 4 (by decide) fl_X6_takeStrip_33 rfl rfl ?_
      refine wp_iconst (v := (nI 2)) dX6_takeStrip_106 (by decide) ?_
      refine wp_iload_n 1 dX6_takeStrip_107 rfl ?_
      refine wp_imul dX6_takeStrip_108 ?_
      refine wp_iconst (v := (nI 1)) dX6_takeStrip_109 (by decide) ?_
      refine wp_iadd dX6_takeStrip_110 ?_
      refine wp_cVi (As := [.int (((nI 2) * x2) + (nI 1))]) (st := [.int x2, .ref 1]) (mw_X5_signAt  hs) gX6_takeStrip_X5_signAt rfl hy_X5_signAt rfl rfl (by decide) rfl (by decide) (by decide) (Nat.le_of_ble_eq_true rfl) rfl dX6_takeStrip_111 (fun v17 M16 hs => ?_)
      refine wp_bipush (v := (nI 117)) dX6_takeStrip_114 (by decide) ?_
      refine wp_icmp_ne (tgt := 123) dX6_takeStrip_116 (by decide) (fun c18 => ?_) (fun c18 => ?_)
      · have hs := hs.1 c18
        refine wp_iconst (v := (nI 0)) dX6_takeStrip_123 (by decide) ?_
        refine wp_cVv (As := [.int x2, .int (nI 0)]) (st := []) (mw_X4_putUp (by decide) hs) gX6_takeStrip_X4_putUp rfl hy_X4_putUp rfl (σ_isS (by decide)) (lt_isS (by decide)) rfl (by decide) (by decide) (Nat.le_of_ble_eq_true rfl) rfl dX6_takeStrip_124 (fun  M19 hs => ?_)
        obtain ⟨y20, ey20⟩ : ∃ y : Int32, y = x2 + (nI 1) := ⟨_, rfl⟩
        have hs := hs y20 ey20
        refine wp_iinc (v := y20) (ls' := [(0, .ref 0), (2, .int y20)]) 1 [1, 0] dX6_takeStrip_127 rfl (by rw [ey20]; rfl) rfl (by decide) ?_
        refine wp_goto (tgt := 86) dX6_takeStrip_130 (by decide) ?_
        refine wp_sub (ls' := [(0, .ref 0), (2, .int y20)]) [0, 1] rfl ?_
        exact ih _ _ hs
      · have hs := hs.2 c18
        refine wp_iconst (v := (nI 1)) dX6_takeStrip_119 (by decide) ?_
        refine wp_goto (tgt := 124) dX6_takeStrip_120 (by decide) ?_
        refine wp_cVv (As := [.int x2, .int (nI 1)]) (st := []) (mw_X4_putUp (by decide) hs) gX6_takeStrip_X4_putUp rfl hy_X4_putUp rfl (σ_isS (by decide)) (lt_isS (by decide)) rfl (by decide) (by decide) (Nat.le_of_ble_eq_true rfl) rfl dX6_takeStrip_124 (fun  M21 hs => ?_)
        obtain ⟨y22, ey22⟩ : ∃ y : Int32, y = x2 + (nI 1) := ⟨_, rfl⟩
        have hs := hs y22 ey22
        refine wp_iinc (v := y22) (ls' := [(0, .ref 0), (2, .int y22)]) 1 [1, 0] dX6_takeStrip_127 rfl (by rw [ey22]; rfl) rfl (by decide) ?_
        refine wp_goto (tgt := 86) dX6_takeStrip_130 (by decide) ?_
        refine wp_sub (ls' := [(0, .ref 0), (2, .int y22)]) [0, 1] rfl ?_
        exact ih _ _ hs
def w_X6_takeStrip (M : Nat → Nat → Int32) (Q : Int32 → (Nat → Nat → Int32) → Prop) : Prop := w_X5_fault M (fun v2 M1 => ((v2 = (-1 : Int32) → w_X0_record 1 M1 (fun M4 => w_X5_pairs M4 (fun v6 M5 => w_X4_beginStrip 1 v6 M5 (fun M7 => w_X6_takeStrip_46 FU (nI 0) M7 (fun y13 M14 => w_X6_takeStrip_86 FU (nI 0) M14 (fun y23 M24 => Q (M24 1 0) M24)))))) ∧ (¬ v2 = (-1 : Int32) → Q ((-1100 : Int32) - v2) M1)))
set_option maxHeartbeats 4000000 in
set_option maxRecDepth 100000 in
theorem mw_X6_takeStrip {E : EN} {M : Nat → Nat → Int32} {Q : Int32 → (Nat → Nat → Int32) → Prop} (hs : w_X6_takeStrip M Q) : MW E iX6_takeStrip 4 0 0 false [.ref 0] σC 46 M (qI σC 46 Q) := by
  refine mw_intro (ls := [(0, .ref 0)]) rfl (by decide +kernel) rfl rfl (Nat.le_of_ble_eq_true rfl) ?_
  have hQ : ∀ x M, Q x M → (qI σC 46 Q) (some (.int x)) σC 46 M := fun _ _ h => ⟨_, rfl, rfl, rfl, h⟩
  generalize (qI σC 46 Q) = Qf at hQ ⊢
  unfold w_X6_takeStrip at hs
  refine wp_aload_n 0 dX6_takeStrip_0 rfl ?_
  refine wp_get (v := .ref 21) dX6_takeStrip_1 rfl (by decide) rfl in_X6_takeStrip_X6 4 (by decide) fl_X6_takeStrip_33 rfl rfl ?_
  refine wp_cVi (As := []) (st := []) (mw_X5_fault  hs) gX6_takeStrip_X5_fault rfl hy_X5_fault rfl rfl (by decide) rfl (by decide) (by decide) (Nat.le_of_ble_eq_true rfl) rfl dX6_takeStrip_4 (fun v2 M1 hs => ?_)
  refine wp_istore_n (ls' := [(0, .ref 0), (1, .int v2)]) [1, 0] dX6_takeStrip_7 rfl (by decide) ?_
  refine wp_iload_n 1 dX6_takeStrip_8 rfl ?_
  refine wp_iconst (v := (-1 : Int32)) dX6_takeStrip_9 (by decide) ?_
  refine wp_icmp_eq (tgt := 19) dX6_takeStrip_10 (by decide) (fun c3 => ?_) (fun c3 => ?_)
  · have hs := hs.1 c3
    refine wp_aload_n 0 dX6_takeStrip_19 rfl ?_
    refine wp_get (v := .ref 7) dX6_takeStrip_20 rfl (by decide) rfl in_X6_takeStrip_X6 3 (by decide) fl_X6_takeStrip_26 rfl rfl ?_
    refine wp_aload_n 0 dX6_takeStrip_23 rfl ?_
    refine wp_get (v := .ref 1) dX6_takeStrip_24 rfl (by decide) rfl in_X6_takeStrip_X6 0 (by decide) fl_X6_takeStrip_10 rfl rfl ?_
    refine wp_cVv (As := [.ref 1]) (st := []) (mw_X0_record (by decide) hs) gX6_takeStrip_X0_record rfl hy_X0_record rfl rfl (by decide) rfl (by decide) (by decide) (Nat.le_of_ble_eq_true rfl) rfl dX6_takeStrip_27 (fun  M4 hs => ?_)
    refine wp_aload_n 0 dX6_takeStrip_30 rfl ?_
    refine wp_get (v := .ref 1) dX6_takeStrip_31 rfl (by decide) rfl in_X6_takeStrip_X6 0 (by decide) fl_X6_takeStrip_10 rfl rfl ?_
    refine wp_aload_n 0 dX6_takeStrip_34 rfl ?_
    refine wp_get (v := .ref 21) dX6_takeStrip_35 rfl (by decide) rfl in_X6_takeStrip_X6 4 (by decide) fl_X6_takeStrip_33 rfl rfl ?_
    refine wp_cVi (As := []) (st := [.ref 1]) (mw_X5_pairs  hs) gX6_takeStrip_X5_pairs rfl hy_X5_pairs rfl rfl (by decide) rfl (by decide) (by decide) (Nat.le_of_ble_eq_true rfl) rfl dX6_takeStrip_38 (fun v6 M5 hs => ?_)
    refine wp_cVv (As := [.int v6]) (st := []) (mw_X4_beginStrip (by decide) hs) gX6_takeStrip_X4_beginStrip rfl hy_X4_beginStrip rfl (σ_isS (by decide)) (lt_isS (by decide)) rfl (by decide) (by decide) (Nat.le_of_ble_eq_true rfl) rfl dX6_takeStrip_41 (fun  M7 hs => ?_)
    refine wp_iconst (v := (nI 0)) dX6_takeStrip_44 (by decide) ?_
    refine wp_istore_n (ls' := [(0, .ref 0), (1, .int v2), (2, .int (nI 0))]) [1, 2, 0] dX6_takeStrip_45 rfl (by decide) ?_
    refine wp_sub (ls' := [(0, .ref 0), (2, .int (nI 0))]) [0, 2] rfl ?_
    refine lp_X6_takeStrip_46 (K := fun y13 M14 => w_X6_takeStrip_86 FU (nI 0) M14 (fun y23 M24 => Q (M24 1 0) M24)) (fun y13 M14 hs => ?_) FU _ _ hs
    refine wp_iconst (v := (nI 0)) dX6_takeStrip_84 (by decide) ?_
    refine wp_istore_n (ls' := [(0, .ref 0), (2, .int (nI 0))]) [1, 0] dX6_takeStrip_85 rfl (by decide) ?_
    refine wp_sub (ls' := [(0, .ref 0), (2, .int (nI 0))]) [0, 1] rfl ?_
    refine lp_X6_takeStrip_86 (K := fun y23 M24 => Q (M24 1 0) M24) (fun y23 M24 hs => ?_) FU _ _ hs
    refine wp_aload_n 0 dX6_takeStrip_133 rfl ?_
    refine wp_get (v := .ref 1) dX6_takeStrip_134 rfl (by decide) rfl in_X6_takeStrip_X6 0 (by decide) fl_X6_takeStrip_10 rfl rfl ?_
    refine wp_get (v := .int (M24 1 0)) dX6_takeStrip_137 (σ_isS (by decide)) (lt_isS (by decide)) rfl in_X6_takeStrip_X4 0 (by decide) fl_X6_takeStrip_66 rfl rfl ?_
    exact wp_ireturn rfl rfl dX6_takeStrip_140 (hQ _ _ hs)
  · have hs := hs.2 c3
    refine wp_sipush (v := (-1100 : Int32)) dX6_takeStrip_13 (by decide) ?_
    refine wp_iload_n 1 dX6_takeStrip_16 rfl ?_
    refine wp_isub dX6_takeStrip_17 ?_
    exact wp_ireturn rfl rfl dX6_takeStrip_18 (hQ _ _ hs)
abbrev iX6_setLength : MI := (cX6_setLength, 4, some .int, RX6, yX6_setLength, wsX6_setLength)
theorem hy_X6_setLength : yX6_setLength.cls = RX6 ∧ yX6_setLength.cls ≠ "java/lang/invoke/MethodHandle" ∧ yX6_setLength.cls ≠ "java/lang/invoke/VarHandle" ∧ (parseMethodDescriptor yX6_setLength.desc).map (fun d => d.parameters.length) = some 2 := by decide +kernel
theorem in_X6_setLength_X4 : ∀ w ∈ u_ws RX4 TX4 7, w ∈ wsX6_setLength := by decide +kernel
theorem in_X6_setLength_X6 : ∀ w ∈ u_ws RX6 TX6 7, w ∈ wsX6_setLength := by decide +kernel
theorem fl_X6_setLength_10 : Cond.fieldLink RX6 10 (TX6 0).1 (TX6 0).2.1 (TX6 0).2.2.1 ∈ wsX6_setLength := by decide +kernel
theorem fl_X6_setLength_26 : Cond.fieldLink RX6 26 (TX6 3).1 (TX6 3).2.1 (TX6 3).2.2.1 ∈ wsX6_setLength := by decide +kernel
theorem fl_X6_setLength_86 : Cond.fieldLink RX6 86 (TX4 2).1 (TX4 2).2.1 (TX4 2).2.2.1 ∈ wsX6_setLength := by decide +kernel
def w_X6_setLength (a : Int32) (b : Int32) (M : Nat → Nat → Int32) (Q : Int32 → (Nat → Nat → Int32) → Prop) : Prop := w_X4_hasFlange 1 a M (fun v2 M1 => ((¬ v2 = 0 → ((b < (nI 1) → Q (-1002 : Int32) M1) ∧ (¬ b < (nI 1) → ((b ≤ (nI 9) → (((M1 1 2) = 0 → w_X4_lengthAt 1 a M1 (fun v8 M7 => ((¬ v8 = b → w_X0_record 1 M7 (fun M10 => w_X4_putLength 1 a b M10 (fun M11 => Q v8 M11))) ∧ (v8 = b → Q (-1005 : Int32) M7)))) ∧ (¬ (M1 1 2) = 0 → Q (-1004 : Int32) M1))) ∧ (¬ b ≤ (nI 9) → Q (-1002 : Int32) M1))))) ∧ (v2 = 0 → Q (-1001 : Int32) M1)))
set_option maxHeartbeats 4000000 in
set_option maxRecDepth 100000 in
theorem mw_X6_setLength {E : EN} {a : Int32} {b : Int32} {M : Nat → Nat → Int32} {Q : Int32 → (Nat → Nat → Int32) → Prop} (hs : w_X6_setLength a b M Q) : MW E iX6_setLength 4 0 0 false [.ref 0, .int a, .int b] σC 46 M (qI σC 46 Q) := by
  refine mw_intro (ls := [(0, .ref 0), (1, .int a), (2, .int b)]) rfl (by decide +kernel) rfl rfl (Nat.le_of_ble_eq_true rfl) ?_
  have hQ : ∀ x M, Q x M → (qI σC 46 Q) (some (.int x)) σC 46 M := fun _ _ h => ⟨_, rfl, rfl, rfl, h⟩
  generalize (qI σC 46 Q) = Qf at hQ ⊢
  unfold w_X6_setLength at hs
  refine wp_aload_n 0 dX6_setLength_0 rfl ?_
  refine wp_get (v := .ref 1) dX6_setLength_1 rfl (by decide) rfl in_X6_setLength_X6 0 (by decide) fl_X6_setLength_10 rfl rfl ?_
  refine wp_iload_n 1 dX6_setLength_4 rfl ?_
  refine wp_cVi (As := [.int a]) (st := []) (mw_X4_hasFlange (by decide) hs) gX6_setLength_X4_hasFlange rfl hy_X4_hasFlange rfl (σ_isS (by decide)) (lt_isS (by decide)) rfl (by decide) (by decide) (Nat.le_of_ble_eq_true rfl) rfl dX6_setLength_5 (fun v2 M1 hs => ?_)
  refine wp_if_ne (tgt := 15) dX6_setLength_8 (by decide) (fun c3 => ?_) (fun c3 => ?_)
  · have hs := hs.1 c3
    refine wp_iload_n 2 dX6_setLength_15 rfl ?_
    refine wp_iconst (v := (nI 1)) dX6_setLength_16 (by decide) ?_
    refine wp_icmp_lt (tgt := 26) dX6_setLength_17 (by decide) (fun c4 => ?_) (fun c4 => ?_)
    · have hs := hs.1 c4
      refine wp_sipush (v := (-1002 : Int32)) dX6_setLength_26 (by decide) ?_
      exact wp_ireturn rfl rfl dX6_setLength_29 (hQ _ _ hs)
    · have hs := hs.2 c4
      refine wp_iload_n 2 dX6_setLength_20 rfl ?_
      refine wp_bipush (v := (nI 9)) dX6_setLength_21 (by decide) ?_
      refine wp_icmp_le (tgt := 30) dX6_setLength_23 (by decide) (fun c5 => ?_) (fun c5 => ?_)
      · have hs := hs.1 c5
        refine wp_aload_n 0 dX6_setLength_30 rfl ?_
        refine wp_get (v := .ref 1) dX6_setLength_31 rfl (by decide) rfl in_X6_setLength_X6 0 (by decide) fl_X6_setLength_10 rfl rfl ?_
        refine wp_get (v := .int (M1 1 2)) dX6_setLength_34 (σ_isS (by decide)) (lt_isS (by decide)) rfl in_X6_setLength_X4 2 (by decide) fl_X6_setLength_86 rfl rfl ?_
        refine wp_if_eq (tgt := 44) dX6_setLength_37 (by decide) (fun c6 => ?_) (fun c6 => ?_)
        · have hs := hs.1 c6
          refine wp_aload_n 0 dX6_setLength_44 rfl ?_
          refine wp_get (v := .ref 1) dX6_setLength_45 rfl (by decide) rfl in_X6_setLength_X6 0 (by decide) fl_X6_setLength_10 rfl rfl ?_
          refine wp_iload_n 1 dX6_setLength_48 rfl ?_
          refine wp_cVi (As := [.int a]) (st := []) (mw_X4_lengthAt (by decide) hs) gX6_setLength_X4_lengthAt rfl hy_X4_lengthAt rfl (σ_isS (by decide)) (lt_isS (by decide)) rfl (by decide) (by decide) (Nat.le_of_ble_eq_true rfl) rfl dX6_setLength_49 (fun v8 M7 hs => ?_)
          refine wp_istore_n (ls' := [(0, .ref 0), (1, .int a), (2, .int b), (3, .int v8)]) [1, 2, 3, 0] dX6_setLength_52 rfl (by decide) ?_
          refine wp_iload_n 3 dX6_setLength_53 rfl ?_
          refine wp_iload_n 2 dX6_setLength_54 rfl ?_
          refine wp_icmp_ne (tgt := 62) dX6_setLength_55 (by decide) (fun c9 => ?_) (fun c9 => ?_)
          · have hs := hs.1 c9
            refine wp_aload_n 0 dX6_setLength_62 rfl ?_
            refine wp_get (v := .ref 7) dX6_setLength_63 rfl (by decide) rfl in_X6_setLength_X6 3 (by decide) fl_X6_setLength_26 rfl rfl ?_
            refine wp_aload_n 0 dX6_setLength_66 rfl ?_
            refine wp_get (v := .ref 1) dX6_setLength_67 rfl (by decide) rfl in_X6_setLength_X6 0 (by decide) fl_X6_setLength_10 rfl rfl ?_
            refine wp_cVv (As := [.ref 1]) (st := []) (mw_X0_record (by decide) hs) gX6_setLength_X0_record rfl hy_X0_record rfl rfl (by decide) rfl (by decide) (by decide) (Nat.le_of_ble_eq_true rfl) rfl dX6_setLength_70 (fun  M10 hs => ?_)
            refine wp_aload_n 0 dX6_setLength_73 rfl ?_
            refine wp_get (v := .ref 1) dX6_setLength_74 rfl (by decide) rfl in_X6_setLength_X6 0 (by decide) fl_X6_setLength_10 rfl rfl ?_
            refine wp_iload_n 1 dX6_setLength_77 rfl ?_
            refine wp_iload_n 2 dX6_setLength_78 rfl ?_
            refine wp_cVv (As := [.int a, .int b]) (st := []) (mw_X4_putLength (by decide) hs) gX6_setLength_X4_putLength rfl hy_X4_putLength rfl (σ_isS (by decide)) (lt_isS (by decide)) rfl (by decide) (by decide) (Nat.le_of_ble_eq_true rfl) rfl dX6_setLength_79 (fun  M11 hs => ?_)
            refine wp_iload_n 3 dX6_setLength_82 rfl ?_
            exact wp_ireturn rfl rfl dX6_setLength_83 (hQ _ _ hs)
          · have hs := hs.2 c9
            refine wp_sipush (v := (-1005 : Int32)) dX6_setLength_58 (by decide) ?_
            exact wp_ireturn rfl rfl dX6_setLength_61 (hQ _ _ hs)
        · have hs := hs.2 c6
          refine wp_sipush (v := (-1004 : Int32)) dX6_setLength_40 (by decide) ?_
          exact wp_ireturn rfl rfl dX6_setLength_43 (hQ _ _ hs)
      · have hs := hs.2 c5
        refine wp_sipush (v := (-1002 : Int32)) dX6_setLength_26 (by decide) ?_
        exact wp_ireturn rfl rfl dX6_setLength_29 (hQ _ _ hs)
  · have hs := hs.2 c3
    refine wp_sipush (v := (-1001 : Int32)) dX6_setLength_11 (by decide) ?_
    exact wp_ireturn rfl rfl dX6_setLength_14 (hQ _ _ hs)
abbrev iX6_setUp : MI := (cX6_setUp, 3, some .int, RX6, yX6_setUp, wsX6_setUp)
theorem hy_X6_setUp : yX6_setUp.cls = RX6 ∧ yX6_setUp.cls ≠ "java/lang/invoke/MethodHandle" ∧ yX6_setUp.cls ≠ "java/lang/invoke/VarHandle" ∧ (parseMethodDescriptor yX6_setUp.desc).map (fun d => d.parameters.length) = some 2 := by decide +kernel
theorem in_X6_setUp_X4 : ∀ w ∈ u_ws RX4 TX4 7, w ∈ wsX6_setUp := by decide +kernel
theorem in_X6_setUp_X6 : ∀ w ∈ u_ws RX6 TX6 7, w ∈ wsX6_setUp := by decide +kernel
theorem fl_X6_setUp_10 : Cond.fieldLink RX6 10 (TX6 0).1 (TX6 0).2.1 (TX6 0).2.2.1 ∈ wsX6_setUp := by decide +kernel
theorem fl_X6_setUp_26 : Cond.fieldLink RX6 26 (TX6 3).1 (TX6 3).2.1 (TX6 3).2.2.1 ∈ wsX6_setUp := by decide +kernel
theorem fl_X6_setUp_86 : Cond.fieldLink RX6 86 (TX4 2).1 (TX4 2).2.1 (TX4 2).2.2.1 ∈ wsX6_setUp := by decide +kernel
theorem fl_X6_setUp_99 : Cond.fieldLink RX6 99 (TX4 1).1 (TX4 1).2.1 (TX4 1).2.2.1 ∈ wsX6_setUp := by decide +kernel
def w_X6_setUp (a : Int32) (b : Int32) (M : Nat → Nat → Int32) (Q : Int32 → (Nat → Nat → Int32) → Prop) : Prop := w_X4_hasBend 1 a M (fun v2 M1 => ((¬ v2 = 0 → (((M1 1 2) = 0 → w_X4_isUp 1 a M1 (fun v6 M5 => ((¬ v6 = b → w_X0_record 1 M5 (fun M8 => w_X4_putUp 1 a b M8 (fun M9 => w_J6_bitCount_0f7a4 (M9 1 1) M9 (fun v11 M10 => Q v11 M10)))) ∧ (v6 = b → Q (-1005 : Int32) M5)))) ∧ (¬ (M1 1 2) = 0 → Q (-1004 : Int32) M1))) ∧ (v2 = 0 → Q (-1001 : Int32) M1)))
set_option maxHeartbeats 4000000 in
set_option maxRecDepth 100000 in
theorem mw_X6_setUp {E : EN} {a : Int32} {b : Int32} {M : Nat → Nat → Int32} {Q : Int32 → (Nat → Nat → Int32) → Prop} (hs : w_X6_setUp a b M Q) : MW E iX6_setUp 4 0 0 false [.ref 0, .int a, .int b] σC 46 M (qI σC 46 Q) := by
  refine mw_intro (ls := [(0, .ref 0), (1, .int a), (2, .int b)]) rfl (by decide +kernel) rfl rfl (Nat.le_of_ble_eq_true rfl) ?_
  have hQ : ∀ x M, Q x M → (qI σC 46 Q) (some (.int x)) σC 46 M := fun _ _ h => ⟨_, rfl, rfl, rfl, h⟩
  generalize (qI σC 46 Q) = Qf at hQ ⊢
  unfold w_X6_setUp at hs
  refine wp_aload_n 0 dX6_setUp_0 rfl ?_
  refine wp_get (v := .ref 1) dX6_setUp_1 rfl (by decide) rfl in_X6_setUp_X6 0 (by decide) fl_X6_setUp_10 rfl rfl ?_
  refine wp_iload_n 1 dX6_setUp_4 rfl ?_
  refine wp_cVi (As := [.int a]) (st := []) (mw_X4_hasBend (by decide) hs) gX6_setUp_X4_hasBend rfl hy_X4_hasBend rfl (σ_isS (by decide)) (lt_isS (by decide)) rfl (by decide) (by decide) (Nat.le_of_ble_eq_true rfl) rfl dX6_setUp_5 (fun v2 M1 hs => ?_)
  refine wp_if_ne (tgt := 15) dX6_setUp_8 (by decide) (fun c3 => ?_) (fun c3 => ?_)
  · have hs := hs.1 c3
    refine wp_aload_n 0 dX6_setUp_15 rfl ?_
    refine wp_get (v := .ref 1) dX6_setUp_16 rfl (by decide) rfl in_X6_setUp_X6 0 (by decide) fl_X6_setUp_10 rfl rfl ?_
    refine wp_get (v := .int (M1 1 2)) dX6_setUp_19 (σ_isS (by decide)) (lt_isS (by decide)) rfl in_X6_setUp_X4 2 (by decide) fl_X6_setUp_86 rfl rfl ?_
    refine wp_if_eq (tgt := 29) dX6_setUp_22 (by decide) (fun c4 => ?_) (fun c4 => ?_)
    · have hs := hs.1 c4
      refine wp_aload_n 0 dX6_setUp_29 rfl ?_
      refine wp_get (v := .ref 1) dX6_setUp_30 rfl (by decide) rfl in_X6_setUp_X6 0 (by decide) fl_X6_setUp_10 rfl rfl ?_
      refine wp_iload_n 1 dX6_setUp_33 rfl ?_
      refine wp_cVi (As := [.int a]) (st := []) (mw_X4_isUp (by decide) hs) gX6_setUp_X4_isUp rfl hy_X4_isUp rfl (σ_isS (by decide)) (lt_isS (by decide)) rfl (by decide) (by decide) (Nat.le_of_ble_eq_true rfl) rfl dX6_setUp_34 (fun v6 M5 hs => ?_)
      refine wp_iload_n 2 dX6_setUp_37 rfl ?_
      refine wp_icmp_ne (tgt := 45) dX6_setUp_38 (by decide) (fun c7 => ?_) (fun c7 => ?_)
      · have hs := hs.1 c7
        refine wp_aload_n 0 dX6_setUp_45 rfl ?_
        refine wp_get (v := .ref 7) dX6_setUp_46 rfl (by decide) rfl in_X6_setUp_X6 3 (by decide) fl_X6_setUp_26 rfl rfl ?_
        refine wp_aload_n 0 dX6_setUp_49 rfl ?_
        refine wp_get (v := .ref 1) dX6_setUp_50 rfl (by decide) rfl in_X6_setUp_X6 0 (by decide) fl_X6_setUp_10 rfl rfl ?_
        refine wp_cVv (As := [.ref 1]) (st := []) (mw_X0_record (by decide) hs) gX6_setUp_X0_record rfl hy_X0_record rfl rfl (by decide) rfl (by decide) (by decide) (Nat.le_of_ble_eq_true rfl) rfl dX6_setUp_53 (fun  M8 hs => ?_)
        refine wp_aload_n 0 dX6_setUp_56 rfl ?_
        refine wp_get (v := .ref 1) dX6_setUp_57 rfl (by decide) rfl in_X6_setUp_X6 0 (by decide) fl_X6_setUp_10 rfl rfl ?_
        refine wp_iload_n 1 dX6_setUp_60 rfl ?_
        refine wp_iload_n 2 dX6_setUp_61 rfl ?_
        refine wp_cVv (As := [.int a, .int b]) (st := []) (mw_X4_putUp (by decide) hs) gX6_setUp_X4_putUp rfl hy_X4_putUp rfl (σ_isS (by decide)) (lt_isS (by decide)) rfl (by decide) (by decide) (Nat.le_of_ble_eq_true rfl) rfl dX6_setUp_62 (fun  M9 hs => ?_)
        refine wp_aload_n 0 dX6_setUp_65 rfl ?_
        refine wp_get (v := .ref 1) dX6_setUp_66 rfl (by decide) rfl in_X6_setUp_X6 0 (by decide) fl_X6_setUp_10 rfl rfl ?_
        refine wp_get (v := .int (M9 1 1)) dX6_setUp_69 (σ_isS (by decide)) (lt_isS (by decide)) rfl in_X6_setUp_X4 1 (by decide) fl_X6_setUp_99 rfl rfl ?_
        refine wp_cSi (As := [.int (M9 1 1)]) (st := []) (mw_J6_bitCount_0f7a4  hs) gX6_setUp_J6_bitCount_0f7a4 rfl hy_J6_bitCount_0f7a4 rfl (by decide) (by decide) (Nat.le_of_ble_eq_true rfl) rfl dX6_setUp_72 (fun v11 M10 hs => ?_)
        exact wp_ireturn rfl rfl dX6_setUp_75 (hQ _ _ hs)
      · have hs := hs.2 c7
        refine wp_sipush (v := (-1005 : Int32)) dX6_setUp_41 (by decide) ?_
        exact wp_ireturn rfl rfl dX6_setUp_44 (hQ _ _ hs)
    · have hs := hs.2 c4
      refine wp_sipush (v := (-1004 : Int32)) dX6_setUp_25 (by decide) ?_
      exact wp_ireturn rfl rfl dX6_setUp_28 (hQ _ _ hs)
  · have hs := hs.2 c3
    refine wp_sipush (v := (-1001 : Int32)) dX6_setUp_11 (by decide) ?_
    exact wp_ireturn rfl rfl dX6_setUp_14 (hQ _ _ hs)
abbrev iX6_mayBeSet : MI := (cX6_mayBeSet, 2, some .boolean, RX6, yX6_mayBeSet, wsX6_mayBeSet)
theorem hy_X6_mayBeSet : yX6_mayBeSet.cls ≠ "java/lang/invoke/MethodHandle" ∧ yX6_mayBeSet.cls ≠ "java/lang/invoke/VarHandle" ∧ (parseMethodDescriptor yX6_mayBeSet.desc).map (fun d => d.parameters.length) = some 2 := by decide +kernel
theorem fl_X6_mayBeSet_117 : Cond.fieldLink RX6 117 RX6 (sn 1) "[I" ∈ wsX6_mayBeSet := by decide +kernel
theorem fl_X6_mayBeSet_121 : Cond.fieldLink RX6 121 RX6 (sn 2) "[I" ∈ wsX6_mayBeSet := by decide +kernel
def w_X6_mayBeSet (a : Int32) (b : Int32) (M : Nat → Nat → Int32) (Q : Int32 → (Nat → Nat → Int32) → Prop) : Prop := ((a < 0 → Q (nI 0) M) ∧ (¬ a < 0 → (((4 : Int32) ≤ a → Q (nI 0) M) ∧ (¬ (4 : Int32) ≤ a → ((a < (4 : Int32) → (vp_in a 4 ∧ ((b < (sv 1 a.toNatClampNeg) → Q (nI 0) M) ∧ (¬ b < (sv 1 a.toNatClampNeg) → (vp_in a 4 ∧ (((sv 2 a.toNatClampNeg) < b → Q (nI 0) M) ∧ (¬ (sv 2 a.toNatClampNeg) < b → Q (nI 1) M))))))) ∧ (¬ a < (4 : Int32) → Q (nI 0) M))))))
set_option maxHeartbeats 4000000 in
set_option maxRecDepth 100000 in
theorem mw_X6_mayBeSet {E : EN} {a : Int32} {b : Int32} {M : Nat → Nat → Int32} {Q : Int32 → (Nat → Nat → Int32) → Prop} (hs : w_X6_mayBeSet a b M Q) : MW E iX6_mayBeSet 1 0 0 false [.int a, .int b] σC 46 M (qI σC 46 Q) := by
  refine mw_intro (ls := [(0, .int a), (1, .int b)]) rfl (by decide +kernel) rfl rfl (Nat.le_of_ble_eq_true rfl) ?_
  have hQ : ∀ x M, Q x M → (qI σC 46 Q) (some (.int x)) σC 46 M := fun _ _ h => ⟨_, rfl, rfl, rfl, h⟩
  generalize (qI σC 46 Q) = Qf at hQ ⊢
  unfold w_X6_mayBeSet at hs
  refine wp_iload_n 0 dX6_mayBeSet_0 rfl ?_
  refine wp_if_lt (tgt := 20) dX6_mayBeSet_1 (by decide) (fun c1 => ?_) (fun c1 => ?_)
  · have hs := hs.1 c1
    refine wp_iconst (v := (nI 0)) dX6_mayBeSet_20 (by decide) ?_
    exact wp_ireturn rfl rfl dX6_mayBeSet_21 (hQ _ _ hs)
  · have hs := hs.2 c1
    refine wp_iload_n 0 dX6_mayBeSet_4 rfl ?_
    refine wp_gets 1 (by decide) fl_X6_mayBeSet_117 dX6_mayBeSet_5 ?_
    refine wp_tlen 1 (by decide) dX6_mayBeSet_8 ?_
    refine wp_icmp_ge (tgt := 20) dX6_mayBeSet_9 (by decide) (fun c2 => ?_) (fun c2 => ?_)
    · have hs := hs.1 c2
      refine wp_iconst (v := (nI 0)) dX6_mayBeSet_20 (by decide) ?_
      exact wp_ireturn rfl rfl dX6_mayBeSet_21 (hQ _ _ hs)
    · have hs := hs.2 c2
      refine wp_iload_n 0 dX6_mayBeSet_12 rfl ?_
      refine wp_gets 2 (by decide) fl_X6_mayBeSet_121 dX6_mayBeSet_13 ?_
      refine wp_tlen 2 (by decide) dX6_mayBeSet_16 ?_
      refine wp_icmp_lt (tgt := 22) dX6_mayBeSet_17 (by decide) (fun c3 => ?_) (fun c3 => ?_)
      · have hs := hs.1 c3
        refine wp_iload_n 1 dX6_mayBeSet_22 rfl ?_
        refine wp_gets 1 (by decide) fl_X6_mayBeSet_117 dX6_mayBeSet_23 ?_
        refine wp_iload_n 0 dX6_mayBeSet_26 rfl ?_
        have hv := hs.1
        have hs := hs.2
        refine wp_tald 1 (by decide) hv dX6_mayBeSet_27 ?_
        refine wp_icmp_lt (tgt := 44) dX6_mayBeSet_28 (by decide) (fun c4 => ?_) (fun c4 => ?_)
        · have hs := hs.1 c4
          refine wp_iconst (v := (nI 0)) dX6_mayBeSet_44 (by decide) ?_
          exact wp_ireturn rfl rfl dX6_mayBeSet_45 (hQ _ _ hs)
        · have hs := hs.2 c4
          refine wp_iload_n 1 dX6_mayBeSet_31 rfl ?_
          refine wp_gets 2 (by decide) fl_X6_mayBeSet_121 dX6_mayBeSet_32 ?_
          refine wp_iload_n 0 dX6_mayBeSet_35 rfl ?_
          have hv := hs.1
          have hs := hs.2
          refine wp_tald 2 (by decide) hv dX6_mayBeSet_36 ?_
          refine wp_icmp_gt (tgt := 44) dX6_mayBeSet_37 (by decide) (fun c5 => ?_) (fun c5 => ?_)
          · have hs := hs.1 c5
            refine wp_iconst (v := (nI 0)) dX6_mayBeSet_44 (by decide) ?_
            exact wp_ireturn rfl rfl dX6_mayBeSet_45 (hQ _ _ hs)
          · have hs := hs.2 c5
            refine wp_iconst (v := (nI 1)) dX6_mayBeSet_40 (by decide) ?_
            refine wp_goto (tgt := 45) dX6_mayBeSet_41 (by decide) ?_
            exact wp_ireturn rfl rfl dX6_mayBeSet_45 (hQ _ _ hs)
      · have hs := hs.2 c3
        refine wp_iconst (v := (nI 0)) dX6_mayBeSet_20 (by decide) ?_
        exact wp_ireturn rfl rfl dX6_mayBeSet_21 (hQ _ _ hs)
abbrev iX6_set : MI := (cX6_set, 4, some .int, RX6, yX6_set, wsX6_set)
theorem hy_X6_set : yX6_set.cls = RX6 ∧ yX6_set.cls ≠ "java/lang/invoke/MethodHandle" ∧ yX6_set.cls ≠ "java/lang/invoke/VarHandle" ∧ (parseMethodDescriptor yX6_set.desc).map (fun d => d.parameters.length) = some 2 := by decide +kernel
theorem in_X6_set_X6 : ∀ w ∈ u_ws RX6 TX6 7, w ∈ wsX6_set := by decide +kernel
theorem fl_X6_set_10 : Cond.fieldLink RX6 10 (TX6 0).1 (TX6 0).2.1 (TX6 0).2.2.1 ∈ wsX6_set := by decide +kernel
theorem fl_X6_set_26 : Cond.fieldLink RX6 26 (TX6 3).1 (TX6 3).2.1 (TX6 3).2.2.1 ∈ wsX6_set := by decide +kernel
def w_X6_set (a : Int32) (b : Int32) (M : Nat → Nat → Int32) (Q : Int32 → (Nat → Nat → Int32) → Prop) : Prop := w_X6_mayBeSet a b M (fun v2 M1 => ((¬ v2 = 0 → w_X4_settingAt 1 a M1 (fun v5 M4 => ((¬ v5 = b → w_X0_record 1 M4 (fun M7 => w_X4_putSetting 1 a b M7 (fun M8 => Q v5 M8))) ∧ (v5 = b → Q (-1005 : Int32) M4)))) ∧ (v2 = 0 → Q (-1002 : Int32) M1)))
set_option maxHeartbeats 4000000 in
set_option maxRecDepth 100000 in
theorem mw_X6_set {E : EN} {a : Int32} {b : Int32} {M : Nat → Nat → Int32} {Q : Int32 → (Nat → Nat → Int32) → Prop} (hs : w_X6_set a b M Q) : MW E iX6_set 4 0 0 false [.ref 0, .int a, .int b] σC 46 M (qI σC 46 Q) := by
  refine mw_intro (ls := [(0, .ref 0), (1, .int a), (2, .int b)]) rfl (by decide +kernel) rfl rfl (Nat.le_of_ble_eq_true rfl) ?_
  have hQ : ∀ x M, Q x M → (qI σC 46 Q) (some (.int x)) σC 46 M := fun _ _ h => ⟨_, rfl, rfl, rfl, h⟩
  generalize (qI σC 46 Q) = Qf at hQ ⊢
  unfold w_X6_set at hs
  refine wp_iload_n 1 dX6_set_0 rfl ?_
  refine wp_iload_n 2 dX6_set_1 rfl ?_
  refine wp_cSi (As := [.int a, .int b]) (st := []) (mw_X6_mayBeSet  hs) gX6_set_X6_mayBeSet rfl hy_X6_mayBeSet rfl (by decide) (by decide) (Nat.le_of_ble_eq_true rfl) rfl dX6_set_2 (fun v2 M1 hs => ?_)
  refine wp_if_ne (tgt := 12) dX6_set_5 (by decide) (fun c3 => ?_) (fun c3 => ?_)
  · have hs := hs.1 c3
    refine wp_aload_n 0 dX6_set_12 rfl ?_
    refine wp_get (v := .ref 1) dX6_set_13 rfl (by decide) rfl in_X6_set_X6 0 (by decide) fl_X6_set_10 rfl rfl ?_
    refine wp_iload_n 1 dX6_set_16 rfl ?_
    refine wp_cVi (As := [.int a]) (st := []) (mw_X4_settingAt (by decide) hs) gX6_set_X4_settingAt rfl hy_X4_settingAt rfl (σ_isS (by decide)) (lt_isS (by decide)) rfl (by decide) (by decide) (Nat.le_of_ble_eq_true rfl) rfl dX6_set_17 (fun v5 M4 hs => ?_)
    refine wp_istore_n (ls' := [(0, .ref 0), (1, .int a), (2, .int b), (3, .int v5)]) [1, 2, 3, 0] dX6_set_20 rfl (by decide) ?_
    refine wp_iload_n 3 dX6_set_21 rfl ?_
    refine wp_iload_n 2 dX6_set_22 rfl ?_
    refine wp_icmp_ne (tgt := 30) dX6_set_23 (by decide) (fun c6 => ?_) (fun c6 => ?_)
    · have hs := hs.1 c6
      refine wp_aload_n 0 dX6_set_30 rfl ?_
      refine wp_get (v := .ref 7) dX6_set_31 rfl (by decide) rfl in_X6_set_X6 3 (by decide) fl_X6_set_26 rfl rfl ?_
      refine wp_aload_n 0 dX6_set_34 rfl ?_
      refine wp_get (v := .ref 1) dX6_set_35 rfl (by decide) rfl in_X6_set_X6 0 (by decide) fl_X6_set_10 rfl rfl ?_
      refine wp_cVv (As := [.ref 1]) (st := []) (mw_X0_record (by decide) hs) gX6_set_X0_record rfl hy_X0_record rfl rfl (by decide) rfl (by decide) (by decide) (Nat.le_of_ble_eq_true rfl) rfl dX6_set_38 (fun  M7 hs => ?_)
      refine wp_aload_n 0 dX6_set_41 rfl ?_
      refine wp_get (v := .ref 1) dX6_set_42 rfl (by decide) rfl in_X6_set_X6 0 (by decide) fl_X6_set_10 rfl rfl ?_
      refine wp_iload_n 1 dX6_set_45 rfl ?_
      refine wp_iload_n 2 dX6_set_46 rfl ?_
      refine wp_cVv (As := [.int a, .int b]) (st := []) (mw_X4_putSetting (by decide) hs) gX6_set_X4_putSetting rfl hy_X4_putSetting rfl (σ_isS (by decide)) (lt_isS (by decide)) rfl (by decide) (by decide) (Nat.le_of_ble_eq_true rfl) rfl dX6_set_47 (fun  M8 hs => ?_)
      refine wp_iload_n 3 dX6_set_50 rfl ?_
      exact wp_ireturn rfl rfl dX6_set_51 (hQ _ _ hs)
    · have hs := hs.2 c6
      refine wp_sipush (v := (-1005 : Int32)) dX6_set_26 (by decide) ?_
      exact wp_ireturn rfl rfl dX6_set_29 (hQ _ _ hs)
  · have hs := hs.2 c3
    refine wp_sipush (v := (-1002 : Int32)) dX6_set_8 (by decide) ?_
    exact wp_ireturn rfl rfl dX6_set_11 (hQ _ _ hs)
abbrev iX6_asNumber : MI := (cX6_asNumber, 1, some .int, RX6, yX6_asNumber, wsX6_asNumber)
theorem hy_X6_asNumber : yX6_asNumber.cls ≠ "java/lang/invoke/MethodHandle" ∧ yX6_asNumber.cls ≠ "java/lang/invoke/VarHandle" ∧ (parseMethodDescriptor yX6_asNumber.desc).map (fun d => d.parameters.length) = some 1 := by decide +kernel
def w_X6_asNumber (a : Int32) (M : Nat → Nat → Int32) (Q : Int32 → (Nat → Nat → Int32) → Prop) : Prop := ((a = 0 → Q (nI 0) M) ∧ (¬ a = 0 → Q (nI 1) M))
set_option maxHeartbeats 4000000 in
set_option maxRecDepth 100000 in
theorem mw_X6_asNumber {E : EN} {a : Int32} {M : Nat → Nat → Int32} {Q : Int32 → (Nat → Nat → Int32) → Prop} (hs : w_X6_asNumber a M Q) : MW E iX6_asNumber 1 0 0 false [.int a] σC 46 M (qI σC 46 Q) := by
  refine mw_intro (ls := [(0, .int a)]) rfl (by decide +kernel) rfl rfl (Nat.le_of_ble_eq_true rfl) ?_
  have hQ : ∀ x M, Q x M → (qI σC 46 Q) (some (.int x)) σC 46 M := fun _ _ h => ⟨_, rfl, rfl, rfl, h⟩
  generalize (qI σC 46 Q) = Qf at hQ ⊢
  unfold w_X6_asNumber at hs
  refine wp_iload_n 0 dX6_asNumber_0 rfl ?_
  refine wp_if_eq (tgt := 8) dX6_asNumber_1 (by decide) (fun c1 => ?_) (fun c1 => ?_)
  · have hs := hs.1 c1
    refine wp_iconst (v := (nI 0)) dX6_asNumber_8 (by decide) ?_
    exact wp_ireturn rfl rfl dX6_asNumber_9 (hQ _ _ hs)
  · have hs := hs.2 c1
    refine wp_iconst (v := (nI 1)) dX6_asNumber_4 (by decide) ?_
    refine wp_goto (tgt := 9) dX6_asNumber_5 (by decide) ?_
    exact wp_ireturn rfl rfl dX6_asNumber_9 (hQ _ _ hs)
abbrev iX6_layOver : MI := (cX6_layOver, 1, some .int, RX6, yX6_layOver, wsX6_layOver)
theorem hy_X6_layOver : yX6_layOver.cls = RX6 ∧ yX6_layOver.cls ≠ "java/lang/invoke/MethodHandle" ∧ yX6_layOver.cls ≠ "java/lang/invoke/VarHandle" ∧ (parseMethodDescriptor yX6_layOver.desc).map (fun d => d.parameters.length) = some 0 := by decide +kernel
theorem in_X6_layOver_X4 : ∀ w ∈ u_ws RX4 TX4 7, w ∈ wsX6_layOver := by decide +kernel
theorem in_X6_layOver_X6 : ∀ w ∈ u_ws RX6 TX6 7, w ∈ wsX6_layOver := by decide +kernel
theorem fl_X6_layOver_10 : Cond.fieldLink RX6 10 (TX6 0).1 (TX6 0).2.1 (TX6 0).2.2.1 ∈ wsX6_layOver := by decide +kernel
theorem fl_X6_layOver_26 : Cond.fieldLink RX6 26 (TX6 3).1 (TX6 3).2.1 (TX6 3).2.2.1 ∈ wsX6_layOver := by decide +kernel
theorem fl_X6_layOver_124 : Cond.fieldLink RX6 124 (TX4 3).1 (TX4 3).2.1 (TX4 3).2.2.1 ∈ wsX6_layOver := by decide +kernel
def w_X6_layOver (M : Nat → Nat → Int32) (Q : Int32 → (Nat → Nat → Int32) → Prop) : Prop := w_X0_record 1 M (fun M1 => ((¬ (M1 1 3) = 0 → ∀ M3 : Nat → Nat → Int32, M3 = um M1 1 (upd (M1 1) 3 (nI 0)) → w_X6_asNumber (M3 1 3) M3 (fun v5 M4 => Q v5 M4)) ∧ ((M1 1 3) = 0 → ∀ M6 : Nat → Nat → Int32, M6 = um M1 1 (upd (M1 1) 3 (nI 1)) → w_X6_asNumber (M6 1 3) M6 (fun v8 M7 => Q v8 M7))))
set_option maxHeartbeats 4000000 in
set_option maxRecDepth 100000 in
theorem mw_X6_layOver {E : EN} {M : Nat → Nat → Int32} {Q : Int32 → (Nat → Nat → Int32) → Prop} (hs : w_X6_layOver M Q) : MW E iX6_layOver 4 0 0 false [.ref 0] σC 46 M (qI σC 46 Q) := by
  refine mw_intro (ls := [(0, .ref 0)]) rfl (by decide +kernel) rfl rfl (Nat.le_of_ble_eq_true rfl) ?_
  have hQ : ∀ x M, Q x M → (qI σC 46 Q) (some (.int x)) σC 46 M := fun _ _ h => ⟨_, rfl, rfl, rfl, h⟩
  generalize (qI σC 46 Q) = Qf at hQ ⊢
  unfold w_X6_layOver at hs
  refine wp_aload_n 0 dX6_layOver_0 rfl ?_
  refine wp_get (v := .ref 7) dX6_layOver_1 rfl (by decide) rfl in_X6_layOver_X6 3 (by decide) fl_X6_layOver_26 rfl rfl ?_
  refine wp_aload_n 0 dX6_layOver_4 rfl ?_
  refine wp_get (v := .ref 1) dX6_layOver_5 rfl (by decide) rfl in_X6_layOver_X6 0 (by decide) fl_X6_layOver_10 rfl rfl ?_
  refine wp_cVv (As := [.ref 1]) (st := []) (mw_X0_record (by decide) hs) gX6_layOver_X0_record rfl hy_X0_record rfl rfl (by decide) rfl (by decide) (by decide) (Nat.le_of_ble_eq_true rfl) rfl dX6_layOver_8 (fun  M1 hs => ?_)
  refine wp_aload_n 0 dX6_layOver_11 rfl ?_
  refine wp_get (v := .ref 1) dX6_layOver_12 rfl (by decide) rfl in_X6_layOver_X6 0 (by decide) fl_X6_layOver_10 rfl rfl ?_
  refine wp_aload_n 0 dX6_layOver_15 rfl ?_
  refine wp_get (v := .ref 1) dX6_layOver_16 rfl (by decide) rfl in_X6_layOver_X6 0 (by decide) fl_X6_layOver_10 rfl rfl ?_
  refine wp_get (v := .int (M1 1 3)) dX6_layOver_19 (σ_isS (by decide)) (lt_isS (by decide)) rfl in_X6_layOver_X4 3 (by decide) fl_X6_layOver_124 rfl rfl ?_
  refine wp_if_ne (tgt := 29) dX6_layOver_22 (by decide) (fun c2 => ?_) (fun c2 => ?_)
  · have hs := hs.1 c2
    refine wp_iconst (v := (nI 0)) dX6_layOver_29 (by decide) ?_
    refine wp_put (ty := .boolean) tyX4 tyX4_ok nmX4 (σ_isS (by decide)) (lt_isS (by decide)) rfl in_X6_layOver_X4 3 (by decide) fl_X6_layOver_124 rfl rfl (by decide +kernel) rfl rfl dX6_layOver_30 (fun M3 eM3 => ?_)
    have hs := hs M3 eM3
    refine wp_aload_n 0 dX6_layOver_33 rfl ?_
    refine wp_get (v := .ref 1) dX6_layOver_34 rfl (by decide) rfl in_X6_layOver_X6 0 (by decide) fl_X6_layOver_10 rfl rfl ?_
    refine wp_get (v := .int (M3 1 3)) dX6_layOver_37 (σ_isS (by decide)) (lt_isS (by decide)) rfl in_X6_layOver_X4 3 (by decide) fl_X6_layOver_124 rfl rfl ?_
    refine wp_cSi (As := [.int (M3 1 3)]) (st := []) (mw_X6_asNumber  hs) gX6_layOver_X6_asNumber rfl hy_X6_asNumber rfl (by decide) (by decide) (Nat.le_of_ble_eq_true rfl) rfl dX6_layOver_40 (fun v5 M4 hs => ?_)
    exact wp_ireturn rfl rfl dX6_layOver_43 (hQ _ _ hs)
  · have hs := hs.2 c2
    refine wp_iconst (v := (nI 1)) dX6_layOver_25 (by decide) ?_
    refine wp_goto (tgt := 30) dX6_layOver_26 (by decide) ?_
    refine wp_put (ty := .boolean) tyX4 tyX4_ok nmX4 (σ_isS (by decide)) (lt_isS (by decide)) rfl in_X6_layOver_X4 3 (by decide) fl_X6_layOver_124 rfl rfl (by decide +kernel) rfl rfl dX6_layOver_30 (fun M6 eM6 => ?_)
    have hs := hs M6 eM6
    refine wp_aload_n 0 dX6_layOver_33 rfl ?_
    refine wp_get (v := .ref 1) dX6_layOver_34 rfl (by decide) rfl in_X6_layOver_X6 0 (by decide) fl_X6_layOver_10 rfl rfl ?_
    refine wp_get (v := .int (M6 1 3)) dX6_layOver_37 (σ_isS (by decide)) (lt_isS (by decide)) rfl in_X6_layOver_X4 3 (by decide) fl_X6_layOver_124 rfl rfl ?_
    refine wp_cSi (As := [.int (M6 1 3)]) (st := []) (mw_X6_asNumber  hs) gX6_layOver_X6_asNumber rfl hy_X6_asNumber rfl (by decide) (by decide) (Nat.le_of_ble_eq_true rfl) rfl dX6_layOver_40 (fun v8 M7 hs => ?_)
    exact wp_ireturn rfl rfl dX6_layOver_43 (hQ _ _ hs)
abbrev iX6_bend : MI := (cX6_bend, 2, some .int, RX6, yX6_bend, wsX6_bend)
theorem hy_X6_bend : yX6_bend.cls = RX6 ∧ yX6_bend.cls ≠ "java/lang/invoke/MethodHandle" ∧ yX6_bend.cls ≠ "java/lang/invoke/VarHandle" ∧ (parseMethodDescriptor yX6_bend.desc).map (fun d => d.parameters.length) = some 1 := by decide +kernel
theorem in_X6_bend_X4 : ∀ w ∈ u_ws RX4 TX4 7, w ∈ wsX6_bend := by decide +kernel
theorem in_X6_bend_X6 : ∀ w ∈ u_ws RX6 TX6 7, w ∈ wsX6_bend := by decide +kernel
theorem fl_X6_bend_10 : Cond.fieldLink RX6 10 (TX6 0).1 (TX6 0).2.1 (TX6 0).2.2.1 ∈ wsX6_bend := by decide +kernel
theorem fl_X6_bend_26 : Cond.fieldLink RX6 26 (TX6 3).1 (TX6 3).2.1 (TX6 3).2.2.1 ∈ wsX6_bend := by decide +kernel
theorem fl_X6_bend_40 : Cond.fieldLink RX6 40 (TX6 5).1 (TX6 5).2.1 (TX6 5).2.2.1 ∈ wsX6_bend := by decide +kernel
theorem fl_X6_bend_86 : Cond.fieldLink RX6 86 (TX4 2).1 (TX4 2).2.1 (TX4 2).2.2.1 ∈ wsX6_bend := by decide +kernel
theorem fl_X6_bend_124 : Cond.fieldLink RX6 124 (TX4 3).1 (TX4 3).2.1 (TX4 3).2.2.1 ∈ wsX6_bend := by decide +kernel
def w_X6_bend (a : Int32) (M : Nat → Nat → Int32) (Q : Int32 → (Nat → Nat → Int32) → Prop) : Prop := w_X4_hasBend 1 a M (fun v2 M1 => ((¬ v2 = 0 → w_X2_reason 23 1 a (M1 1 2) (M1 1 3) M1 (fun v5 M4 => ((v5 = 0 → w_X0_record 1 M4 (fun M7 => w_X4_doBend 1 a M7 (fun M8 => w_X4_doneBends 1 M8 (fun v10 M9 => Q v10 M9)))) ∧ (¬ v5 = 0 → Q (-1004 : Int32) M4)))) ∧ (v2 = 0 → Q (-1001 : Int32) M1)))
set_option maxHeartbeats 4000000 in
set_option maxRecDepth 100000 in
theorem mw_X6_bend {E : EN} {a : Int32} {M : Nat → Nat → Int32} {Q : Int32 → (Nat → Nat → Int32) → Prop} (hs : w_X6_bend a M Q) : MW E iX6_bend 4 0 0 false [.ref 0, .int a] σC 46 M (qI σC 46 Q) := by
  refine mw_intro (ls := [(0, .ref 0), (1, .int a)]) rfl (by decide +kernel) rfl rfl (Nat.le_of_ble_eq_true rfl) ?_
  have hQ : ∀ x M, Q x M → (qI σC 46 Q) (some (.int x)) σC 46 M := fun _ _ h => ⟨_, rfl, rfl, rfl, h⟩
  generalize (qI σC 46 Q) = Qf at hQ ⊢
  unfold w_X6_bend at hs
  refine wp_aload_n 0 dX6_bend_0 rfl ?_
  refine wp_get (v := .ref 1) dX6_bend_1 rfl (by decide) rfl in_X6_bend_X6 0 (by decide) fl_X6_bend_10 rfl rfl ?_
  refine wp_iload_n 1 dX6_bend_4 rfl ?_
  refine wp_cVi (As := [.int a]) (st := []) (mw_X4_hasBend (by decide) hs) gX6_bend_X4_hasBend rfl hy_X4_hasBend rfl (σ_isS (by decide)) (lt_isS (by decide)) rfl (by decide) (by decide) (Nat.le_of_ble_eq_true rfl) rfl dX6_bend_5 (fun v2 M1 hs => ?_)
  refine wp_if_ne (tgt := 15) dX6_bend_8 (by decide) (fun c3 => ?_) (fun c3 => ?_)
  · have hs := hs.1 c3
    refine wp_aload_n 0 dX6_bend_15 rfl ?_
    refine wp_get (v := .ref 23) dX6_bend_16 rfl (by decide) rfl in_X6_bend_X6 5 (by decide) fl_X6_bend_40 rfl rfl ?_
    refine wp_aload_n 0 dX6_bend_19 rfl ?_
    refine wp_get (v := .ref 1) dX6_bend_20 rfl (by decide) rfl in_X6_bend_X6 0 (by decide) fl_X6_bend_10 rfl rfl ?_
    refine wp_iload_n 1 dX6_bend_23 rfl ?_
    refine wp_aload_n 0 dX6_bend_24 rfl ?_
    refine wp_get (v := .ref 1) dX6_bend_25 rfl (by decide) rfl in_X6_bend_X6 0 (by decide) fl_X6_bend_10 rfl rfl ?_
    refine wp_get (v := .int (M1 1 2)) dX6_bend_28 (σ_isS (by decide)) (lt_isS (by decide)) rfl in_X6_bend_X4 2 (by decide) fl_X6_bend_86 rfl rfl ?_
    refine wp_aload_n 0 dX6_bend_31 rfl ?_
    refine wp_get (v := .ref 1) dX6_bend_32 rfl (by decide) rfl in_X6_bend_X6 0 (by decide) fl_X6_bend_10 rfl rfl ?_
    refine wp_get (v := .int (M1 1 3)) dX6_bend_35 (σ_isS (by decide)) (lt_isS (by decide)) rfl in_X6_bend_X4 3 (by decide) fl_X6_bend_124 rfl rfl ?_
    refine wp_cVi (As := [.ref 1, .int a, .int (M1 1 2), .int (M1 1 3)]) (st := []) (mw_X2_reason (by decide) (by decide) hs) gX6_bend_X2_reason rfl hy_X2_reason rfl (σ_isP (by decide)) (lt_isP (by decide)) rfl (by decide) (by decide) (Nat.le_of_ble_eq_true rfl) rfl dX6_bend_38 (fun v5 M4 hs => ?_)
    refine wp_if_eq (tgt := 48) dX6_bend_41 (by decide) (fun c6 => ?_) (fun c6 => ?_)
    · have hs := hs.1 c6
      refine wp_aload_n 0 dX6_bend_48 rfl ?_
      refine wp_get (v := .ref 7) dX6_bend_49 rfl (by decide) rfl in_X6_bend_X6 3 (by decide) fl_X6_bend_26 rfl rfl ?_
      refine wp_aload_n 0 dX6_bend_52 rfl ?_
      refine wp_get (v := .ref 1) dX6_bend_53 rfl (by decide) rfl in_X6_bend_X6 0 (by decide) fl_X6_bend_10 rfl rfl ?_
      refine wp_cVv (As := [.ref 1]) (st := []) (mw_X0_record (by decide) hs) gX6_bend_X0_record rfl hy_X0_record rfl rfl (by decide) rfl (by decide) (by decide) (Nat.le_of_ble_eq_true rfl) rfl dX6_bend_56 (fun  M7 hs => ?_)
      refine wp_aload_n 0 dX6_bend_59 rfl ?_
      refine wp_get (v := .ref 1) dX6_bend_60 rfl (by decide) rfl in_X6_bend_X6 0 (by decide) fl_X6_bend_10 rfl rfl ?_
      refine wp_iload_n 1 dX6_bend_63 rfl ?_
      refine wp_cVv (As := [.int a]) (st := []) (mw_X4_doBend (by decide) hs) gX6_bend_X4_doBend rfl hy_X4_doBend rfl (σ_isS (by decide)) (lt_isS (by decide)) rfl (by decide) (by decide) (Nat.le_of_ble_eq_true rfl) rfl dX6_bend_64 (fun  M8 hs => ?_)
      refine wp_aload_n 0 dX6_bend_67 rfl ?_
      refine wp_get (v := .ref 1) dX6_bend_68 rfl (by decide) rfl in_X6_bend_X6 0 (by decide) fl_X6_bend_10 rfl rfl ?_
      refine wp_cVi (As := []) (st := []) (mw_X4_doneBends (by decide) hs) gX6_bend_X4_doneBends rfl hy_X4_doneBends rfl (σ_isS (by decide)) (lt_isS (by decide)) rfl (by decide) (by decide) (Nat.le_of_ble_eq_true rfl) rfl dX6_bend_71 (fun v10 M9 hs => ?_)
      exact wp_ireturn rfl rfl dX6_bend_74 (hQ _ _ hs)
    · have hs := hs.2 c6
      refine wp_sipush (v := (-1004 : Int32)) dX6_bend_44 (by decide) ?_
      exact wp_ireturn rfl rfl dX6_bend_47 (hQ _ _ hs)
  · have hs := hs.2 c3
    refine wp_sipush (v := (-1001 : Int32)) dX6_bend_11 (by decide) ?_
    exact wp_ireturn rfl rfl dX6_bend_14 (hQ _ _ hs)
abbrev iX6_flatten : MI := (cX6_flatten, 2, some .int, RX6, yX6_flatten, wsX6_flatten)
theorem hy_X6_flatten : yX6_flatten.cls = RX6 ∧ yX6_flatten.cls ≠ "java/lang/invoke/MethodHandle" ∧ yX6_flatten.cls ≠ "java/lang/invoke/VarHandle" ∧ (parseMethodDescriptor yX6_flatten.desc).map (fun d => d.parameters.length) = some 1 := by decide +kernel
theorem in_X6_flatten_X4 : ∀ w ∈ u_ws RX4 TX4 7, w ∈ wsX6_flatten := by decide +kernel
theorem in_X6_flatten_X6 : ∀ w ∈ u_ws RX6 TX6 7, w ∈ wsX6_flatten := by decide +kernel
theorem fl_X6_flatten_10 : Cond.fieldLink RX6 10 (TX6 0).1 (TX6 0).2.1 (TX6 0).2.2.1 ∈ wsX6_flatten := by decide +kernel
theorem fl_X6_flatten_26 : Cond.fieldLink RX6 26 (TX6 3).1 (TX6 3).2.1 (TX6 3).2.2.1 ∈ wsX6_flatten := by decide +kernel
theorem fl_X6_flatten_86 : Cond.fieldLink RX6 86 (TX4 2).1 (TX4 2).2.1 (TX4 2).2.2.1 ∈ wsX6_flatten := by decide +kernel
def w_X6_flatten (a : Int32) (M : Nat → Nat → Int32) (Q : Int32 → (Nat → Nat → Int32) → Prop) : Prop := w_X4_hasBend 1 a M (fun v2 M1 => ((¬ v2 = 0 → w_X4_isDone 1 a M1 (fun v5 M4 => ((¬ v5 = 0 → w_X0_record 1 M4 (fun M7 => ∀ M8 : Nat → Nat → Int32, M8 = um M7 1 (upd (M7 1) 2 ((M7 1 2) &&& (((nI 1) <<< (a &&& 31)) ^^^ (-1 : Int32)))) → w_X4_doneBends 1 M8 (fun v10 M9 => Q v10 M9))) ∧ (v5 = 0 → Q (-1005 : Int32) M4)))) ∧ (v2 = 0 → Q (-1001 : Int32) M1)))
set_option maxHeartbeats 4000000 in
set_option maxRecDepth 100000 in
theorem mw_X6_flatten {E : EN} {a : Int32} {M : Nat → Nat → Int32} {Q : Int32 → (Nat → Nat → Int32) → Prop} (hs : w_X6_flatten a M Q) : MW E iX6_flatten 4 0 0 false [.ref 0, .int a] σC 46 M (qI σC 46 Q) := by
  refine mw_intro (ls := [(0, .ref 0), (1, .int a)]) rfl (by decide +kernel) rfl rfl (Nat.le_of_ble_eq_true rfl) ?_
  have hQ : ∀ x M, Q x M → (qI σC 46 Q) (some (.int x)) σC 46 M := fun _ _ h => ⟨_, rfl, rfl, rfl, h⟩
  generalize (qI σC 46 Q) = Qf at hQ ⊢
  unfold w_X6_flatten at hs
  refine wp_aload_n 0 dX6_flatten_0 rfl ?_
  refine wp_get (v := .ref 1) dX6_flatten_1 rfl (by decide) rfl in_X6_flatten_X6 0 (by decide) fl_X6_flatten_10 rfl rfl ?_
  refine wp_iload_n 1 dX6_flatten_4 rfl ?_
  refine wp_cVi (As := [.int a]) (st := []) (mw_X4_hasBend (by decide) hs) gX6_flatten_X4_hasBend rfl hy_X4_hasBend rfl (σ_isS (by decide)) (lt_isS (by decide)) rfl (by decide) (by decide) (Nat.le_of_ble_eq_true rfl) rfl dX6_flatten_5 (fun v2 M1 hs => ?_)
  refine wp_if_ne (tgt := 15) dX6_flatten_8 (by decide) (fun c3 => ?_) (fun c3 => ?_)
  · have hs := hs.1 c3
    refine wp_aload_n 0 dX6_flatten_15 rfl ?_
    refine wp_get (v := .ref 1) dX6_flatten_16 rfl (by decide) rfl in_X6_flatten_X6 0 (by decide) fl_X6_flatten_10 rfl rfl ?_
    refine wp_iload_n 1 dX6_flatten_19 rfl ?_
    refine wp_cVi (As := [.int a]) (st := []) (mw_X4_isDone (by decide) hs) gX6_flatten_X4_isDone rfl hy_X4_isDone rfl (σ_isS (by decide)) (lt_isS (by decide)) rfl (by decide) (by decide) (Nat.le_of_ble_eq_true rfl) rfl dX6_flatten_20 (fun v5 M4 hs => ?_)
    refine wp_if_ne (tgt := 30) dX6_flatten_23 (by decide) (fun c6 => ?_) (fun c6 => ?_)
    · have hs := hs.1 c6
      refine wp_aload_n 0 dX6_flatten_30 rfl ?_
      refine wp_get (v := .ref 7) dX6_flatten_31 rfl (by decide) rfl in_X6_flatten_X6 3 (by decide) fl_X6_flatten_26 rfl rfl ?_
      refine wp_aload_n 0 dX6_flatten_34 rfl ?_
      refine wp_get (v := .ref 1) dX6_flatten_35 rfl (by decide) rfl in_X6_flatten_X6 0 (by decide) fl_X6_flatten_10 rfl rfl ?_
      refine wp_cVv (As := [.ref 1]) (st := []) (mw_X0_record (by decide) hs) gX6_flatten_X0_record rfl hy_X0_record rfl rfl (by decide) rfl (by decide) (by decide) (Nat.le_of_ble_eq_true rfl) rfl dX6_flatten_38 (fun  M7 hs => ?_)
      refine wp_aload_n 0 dX6_flatten_41 rfl ?_
      refine wp_get (v := .ref 1) dX6_flatten_42 rfl (by decide) rfl in_X6_flatten_X6 0 (by decide) fl_X6_flatten_10 rfl rfl ?_
      refine wp_dup rfl dX6_flatten_45 ?_
      refine wp_get (v := .int (M7 1 2)) dX6_flatten_46 (σ_isS (by decide)) (lt_isS (by decide)) rfl in_X6_flatten_X4 2 (by decide) fl_X6_flatten_86 rfl rfl ?_
      refine wp_iconst (v := (nI 1)) dX6_flatten_49 (by decide) ?_
      refine wp_iload_n 1 dX6_flatten_50 rfl ?_
      refine wp_ishl dX6_flatten_51 ?_
      refine wp_iconst (v := (-1 : Int32)) dX6_flatten_52 (by decide) ?_
      refine wp_ixor dX6_flatten_53 ?_
      refine wp_iand dX6_flatten_54 ?_
      refine wp_put (ty := .int) tyX4 tyX4_ok nmX4 (σ_isS (by decide)) (lt_isS (by decide)) rfl in_X6_flatten_X4 2 (by decide) fl_X6_flatten_86 rfl rfl (by decide +kernel) rfl rfl dX6_flatten_55 (fun M8 eM8 => ?_)
      have hs := hs M8 eM8
      refine wp_aload_n 0 dX6_flatten_58 rfl ?_
      refine wp_get (v := .ref 1) dX6_flatten_59 rfl (by decide) rfl in_X6_flatten_X6 0 (by decide) fl_X6_flatten_10 rfl rfl ?_
      refine wp_cVi (As := []) (st := []) (mw_X4_doneBends (by decide) hs) gX6_flatten_X4_doneBends rfl hy_X4_doneBends rfl (σ_isS (by decide)) (lt_isS (by decide)) rfl (by decide) (by decide) (Nat.le_of_ble_eq_true rfl) rfl dX6_flatten_62 (fun v10 M9 hs => ?_)
      exact wp_ireturn rfl rfl dX6_flatten_65 (hQ _ _ hs)
    · have hs := hs.2 c6
      refine wp_sipush (v := (-1005 : Int32)) dX6_flatten_26 (by decide) ?_
      exact wp_ireturn rfl rfl dX6_flatten_29 (hQ _ _ hs)
  · have hs := hs.2 c3
    refine wp_sipush (v := (-1001 : Int32)) dX6_flatten_11 (by decide) ?_
    exact wp_ireturn rfl rfl dX6_flatten_14 (hQ _ _ hs)
abbrev iX6_hasOrder : MI := (cX6_hasOrder, 1, some .boolean, RX6, yX6_hasOrder, wsX6_hasOrder)
theorem hy_X6_hasOrder : yX6_hasOrder.cls = RX6 ∧ yX6_hasOrder.cls ≠ "java/lang/invoke/MethodHandle" ∧ yX6_hasOrder.cls ≠ "java/lang/invoke/VarHandle" ∧ (parseMethodDescriptor yX6_hasOrder.desc).map (fun d => d.parameters.length) = some 0 := by decide +kernel
theorem in_X6_hasOrder_X4 : ∀ w ∈ u_ws RX4 TX4 7, w ∈ wsX6_hasOrder := by decide +kernel
theorem in_X6_hasOrder_X6 : ∀ w ∈ u_ws RX6 TX6 7, w ∈ wsX6_hasOrder := by decide +kernel
theorem fl_X6_hasOrder_10 : Cond.fieldLink RX6 10 (TX6 0).1 (TX6 0).2.1 (TX6 0).2.2.1 ∈ wsX6_hasOrder := by decide +kernel
theorem fl_X6_hasOrder_47 : Cond.fieldLink RX6 47 (TX6 6).1 (TX6 6).2.1 (TX6 6).2.2.1 ∈ wsX6_hasOrder := by decide +kernel
theorem fl_X6_hasOrder_86 : Cond.fieldLink RX6 86 (TX4 2).1 (TX4 2).2.1 (TX4 2).2.2.1 ∈ wsX6_hasOrder := by decide +kernel
def w_X6_hasOrder (M : Nat → Nat → Int32) (Q : Int32 → (Nat → Nat → Int32) → Prop) : Prop := w_X1_prepare 1 M (fun M1 => w_X1_waysFrom (M1 1 2) M1 (fun v3 M2 => ((v3 ≤ 0 → Q (nI 0) M2) ∧ (¬ v3 ≤ 0 → Q (nI 1) M2))))
set_option maxHeartbeats 4000000 in
set_option maxRecDepth 100000 in
theorem mw_X6_hasOrder {E : EN} {M : Nat → Nat → Int32} {Q : Int32 → (Nat → Nat → Int32) → Prop} (hs : w_X6_hasOrder M Q) : MW E iX6_hasOrder 6 0 0 false [.ref 0] σC 46 M (qI σC 46 Q) := by
  refine mw_intro (ls := [(0, .ref 0)]) rfl (by decide +kernel) rfl rfl (Nat.le_of_ble_eq_true rfl) ?_
  have hQ : ∀ x M, Q x M → (qI σC 46 Q) (some (.int x)) σC 46 M := fun _ _ h => ⟨_, rfl, rfl, rfl, h⟩
  generalize (qI σC 46 Q) = Qf at hQ ⊢
  unfold w_X6_hasOrder at hs
  refine wp_aload_n 0 dX6_hasOrder_0 rfl ?_
  refine wp_get (v := .ref 31) dX6_hasOrder_1 rfl (by decide) rfl in_X6_hasOrder_X6 6 (by decide) fl_X6_hasOrder_47 rfl rfl ?_
  refine wp_aload_n 0 dX6_hasOrder_4 rfl ?_
  refine wp_get (v := .ref 1) dX6_hasOrder_5 rfl (by decide) rfl in_X6_hasOrder_X6 0 (by decide) fl_X6_hasOrder_10 rfl rfl ?_
  refine wp_cVv (As := [.ref 1]) (st := []) (mw_X1_prepare (by decide) hs) gX6_hasOrder_X1_prepare rfl hy_X1_prepare rfl rfl (by decide) rfl (by decide) (by decide) (Nat.le_of_ble_eq_true rfl) rfl dX6_hasOrder_8 (fun  M1 hs => ?_)
  refine wp_aload_n 0 dX6_hasOrder_11 rfl ?_
  refine wp_get (v := .ref 31) dX6_hasOrder_12 rfl (by decide) rfl in_X6_hasOrder_X6 6 (by decide) fl_X6_hasOrder_47 rfl rfl ?_
  refine wp_aload_n 0 dX6_hasOrder_15 rfl ?_
  refine wp_get (v := .ref 1) dX6_hasOrder_16 rfl (by decide) rfl in_X6_hasOrder_X6 0 (by decide) fl_X6_hasOrder_10 rfl rfl ?_
  refine wp_get (v := .int (M1 1 2)) dX6_hasOrder_19 (σ_isS (by decide)) (lt_isS (by decide)) rfl in_X6_hasOrder_X4 2 (by decide) fl_X6_hasOrder_86 rfl rfl ?_
  refine wp_cVi (As := [.int (M1 1 2)]) (st := []) (mw_X1_waysFrom  hs) gX6_hasOrder_X1_waysFrom rfl hy_X1_waysFrom rfl rfl (by decide) rfl (by decide) (by decide) (Nat.le_of_ble_eq_true rfl) rfl dX6_hasOrder_22 (fun v3 M2 hs => ?_)
  refine wp_if_le (tgt := 32) dX6_hasOrder_25 (by decide) (fun c4 => ?_) (fun c4 => ?_)
  · have hs := hs.1 c4
    refine wp_iconst (v := (nI 0)) dX6_hasOrder_32 (by decide) ?_
    exact wp_ireturn rfl rfl dX6_hasOrder_33 (hQ _ _ hs)
  · have hs := hs.2 c4
    refine wp_iconst (v := (nI 1)) dX6_hasOrder_28 (by decide) ?_
    refine wp_goto (tgt := 33) dX6_hasOrder_29 (by decide) ?_
    exact wp_ireturn rfl rfl dX6_hasOrder_33 (hQ _ _ hs)
abbrev iX6_follow : MI := (cX6_follow, 6, some .int, RX6, yX6_follow, wsX6_follow)
theorem hy_X6_follow : yX6_follow.cls = RX6 ∧ yX6_follow.cls ≠ "java/lang/invoke/MethodHandle" ∧ yX6_follow.cls ≠ "java/lang/invoke/VarHandle" ∧ (parseMethodDescriptor yX6_follow.desc).map (fun d => d.parameters.length) = some 1 := by decide +kernel
theorem in_X6_follow_X4 : ∀ w ∈ u_ws RX4 TX4 7, w ∈ wsX6_follow := by decide +kernel
theorem in_X6_follow_X6 : ∀ w ∈ u_ws RX6 TX6 7, w ∈ wsX6_follow := by decide +kernel
theorem fl_X6_follow_10 : Cond.fieldLink RX6 10 (TX6 0).1 (TX6 0).2.1 (TX6 0).2.2.1 ∈ wsX6_follow := by decide +kernel
theorem fl_X6_follow_26 : Cond.fieldLink RX6 26 (TX6 3).1 (TX6 3).2.1 (TX6 3).2.2.1 ∈ wsX6_follow := by decide +kernel
theorem fl_X6_follow_47 : Cond.fieldLink RX6 47 (TX6 6).1 (TX6 6).2.1 (TX6 6).2.2.1 ∈ wsX6_follow := by decide +kernel
theorem fl_X6_follow_86 : Cond.fieldLink RX6 86 (TX4 2).1 (TX4 2).2.1 (TX4 2).2.2.1 ∈ wsX6_follow := by decide +kernel
theorem fl_X6_follow_124 : Cond.fieldLink RX6 124 (TX4 3).1 (TX4 3).2.1 (TX4 3).2.2.1 ∈ wsX6_follow := by decide +kernel
def w_X6_follow_62 : Nat → Int32 → Int32 → (Nat → Nat → Int32) → (Int32 → (Nat → Nat → Int32) → Prop) → Prop
  | 0, _, _, _, _ => False
  | n + 1, x3, x4, M, K => ((x3 ≤ x4 → K x4 M) ∧ (¬ x3 ≤ x4 → w_X1_firstStep (M 1 2) M (fun v13 M12 => w_X4_isUp 1 v13 M12 (fun v15 M14 => ((¬ v15 = 0 → ∀ M17 : Nat → Nat → Int32, M17 = um M14 1 (upd (M14 1) 3 (nI 0)) → w_X4_doBend 1 v13 M17 (fun M18 => ∀ y19 : Int32, y19 = x4 + (nI 1) → w_X6_follow_62 n x3 y19 M18 K)) ∧ (v15 = 0 → ∀ M20 : Nat → Nat → Int32, M20 = um M14 1 (upd (M14 1) 3 (nI 1)) → w_X4_doBend 1 v13 M20 (fun M21 => ∀ y22 : Int32, y22 = x4 + (nI 1) → w_X6_follow_62 n x3 y22 M21 K)))))))
set_option maxHeartbeats 4000000 in
set_option maxRecDepth 100000 in
theorem lp_X6_follow_62 {E : EN} {x3 : Int32} {Qf : PST} {K : Int32 → (Nat → Nat → Int32) → Prop} (hK : ∀ (z4 : Int32) (M : Nat → Nat → Int32), K z4 M → WP E iX6_follow 7 0 0 false 123 [(0, .ref 0)] [] σC 46 M Qf) : ∀ (nn : Nat) (x4 : Int32) (M : Nat → Nat → Int32), w_X6_follow_62 nn x3 x4 M K → WP E iX6_follow 7 0 0 false 62 [(0, .ref 0), (3, .int x3), (4, .int x4)] [] σC 46 M Qf := by
  intro nn
  induction nn with
  | zero => intro x4 M hs; exact hs.elim
  | succ n ih =>
    intro x4 M hs
    unfold w_X6_follow_62 at hs
    refine wp_iload 2 dX6_follow_62 rfl ?_
    refine wp_iload_n 1 dX6_follow_64 rfl ?_
    refine wp_icmp_ge (tgt := 123) dX6_follow_65 (by decide) (fun c11 => ?_) (fun c11 => ?_)
    · have hs := hs.1 c11
      refine wp_sub (ls' := [(0, .ref 0)]) [0] rfl ?_
      exact hK _ _ hs
    · have hs := hs.2 c11
      refine wp_aload_n 0 dX6_follow_68 rfl ?_
      refine wp_get (v := .ref 31) dX6_follow_69 rfl (by decide) rfl in_X6_follow_X6 6 (by decide) fl_X6_follow_47 rfl rfl ?_
      refine wp_aload_n 0 dX6_follow_72 rfl ?_
      refine wp_get (v := .ref 1) dX6_follow_73 rfl (by decide) rfl in_X6_follow_X6 0 (by decide) fl_X6_follow_10 rfl rfl ?_
      refine wp_get (v := .int (M 1 2)) dX6_follow_76 (σ_isS (by decide)) (lt_isS (by decide)) rfl in_X6_follow_X4 2 (by decide) fl_X6_follow_86 rfl rfl ?_
      refine wp_cVi (As := [.int (M 1 2)]) (st := []) (mw_X1_firstStep  hs) gX6_follow_X1_firstStep rfl hy_X1_firstStep rfl rfl (by decide) rfl (by decide) (by decide) (Nat.le_of_ble_eq_true rfl) rfl dX6_follow_79 (fun v13 M12 hs => ?_)
      refine wp_istore (ls' := [(0, .ref 0), (3, .int x3), (4, .int x4), (5, .int v13)]) [1, 2, 3, 0] dX6_follow_82 rfl (by decide) ?_
      refine wp_aload_n 0 dX6_follow_84 rfl ?_
      refine wp_get (v := .ref 1) dX6_follow_85 rfl (by decide) rfl in_X6_follow_X6 0 (by decide) fl_X6_follow_10 rfl rfl ?_
      refine wp_aload_n 0 dX6_follow_88 rfl ?_
      refine wp_get (v := .ref 1) dX6_follow_89 rfl (by decide) rfl in_X6_follow_X6 0 (by decide) fl_X6_follow_10 rfl rfl ?_
      refine wp_iload 3 dX6_follow_92 rfl ?_
      refine wp_cVi (As := [.int v13]) (st := [.ref 1]) (mw_X4_isUp (by decide) hs) gX6_follow_X4_isUp rfl hy_X4_isUp rfl (σ_isS (by decide)) (lt_isS (by decide)) rfl (by decide) (by decide) (Nat.le_of_ble_eq_true rfl) rfl dX6_follow_94 (fun v15 M14 hs => ?_)
      refine wp_if_ne (tgt := 104) dX6_follow_97 (by decide) (fun c16 => ?_) (fun c16 => ?_)
      · have hs := hs.1 c16
        refine wp_iconst (v := (nI 0)) dX6_follow_104 (by decide) ?_
        refine wp_put (ty := .boolean) tyX4 tyX4_ok nmX4 (σ_isS (by decide)) (lt_isS (by decide)) rfl in_X6_follow_X4 3 (by decide) fl_X6_follow_124 rfl rfl (by decide +kernel) rfl rfl dX6_follow_105 (fun M17 eM17 => ?_)
        have hs := hs M17 eM17
        refine wp_aload_n 0 dX6_follow_108 rfl ?_
        refine wp_get (v := .ref 1) dX6_follow_109 rfl (by decide) rfl in_X6_follow_X6 0 (by decide) fl_X6_follow_10 rfl rfl ?_
        refine wp_iload 3 dX6_follow_112 rfl ?_
        refine wp_cVv (As := [.int v13]) (st := []) (mw_X4_doBend (by decide) hs) gX6_follow_X4_doBend rfl hy_X4_doBend rfl (σ_isS (by decide)) (lt_isS (by decide)) rfl (by decide) (by decide) (Nat.le_of_ble_eq_true rfl) rfl dX6_follow_114 (fun  M18 hs => ?_)
        obtain ⟨y19, ey19⟩ : ∃ y : Int32, y = x4 + (nI 1) := ⟨_, rfl⟩
        have hs := hs y19 ey19
        refine wp_iinc (v := y19) (ls' := [(0, .ref 0), (3, .int x3), (4, .int y19), (5, .int v13)]) 2 [1, 2, 0, 3] dX6_follow_117 rfl (by rw [ey19]; rfl) rfl (by decide) ?_
        refine wp_goto (tgt := 62) dX6_follow_120 (by decide) ?_
        refine wp_sub (ls' := [(0, .ref 0), (3, .int x3), (4, .int y19)]) [0, 1, 2] rfl ?_
        exact ih _ _ hs
      · have hs := hs.2 c16
        refine wp_iconst (v := (nI 1)) dX6_follow_100 (by decide) ?_
        refine wp_goto (tgt := 105) dX6_follow_101 (by decide) ?_
        refine wp_put (ty := .boolean) tyX4 tyX4_ok nmX4 (σ_isS (by decide)) (lt_isS (by decide)) rfl in_X6_follow_X4 3 (by decide) fl_X6_follow_124 rfl rfl (by decide +kernel) rfl rfl dX6_follow_105 (fun M20 eM20 => ?_)
        have hs := hs M20 eM20
        refine wp_aload_n 0 dX6_follow_108 rfl ?_
        refine wp_get (v := .ref 1) dX6_follow_109 rfl (by decide) rfl in_X6_follow_X6 0 (by decide) fl_X6_follow_10 rfl rfl ?_
        refine wp_iload 3 dX6_follow_112 rfl ?_
        refine wp_cVv (As := [.int v13]) (st := []) (mw_X4_doBend (by decide) hs) gX6_follow_X4_doBend rfl hy_X4_doBend rfl (σ_isS (by decide)) (lt_isS (by decide)) rfl (by decide) (by decide) (Nat.le_of_ble_eq_true rfl) rfl dX6_follow_114 (fun  M21 hs => ?_)
        obtain ⟨y22, ey22⟩ : ∃ y : Int32, y = x4 + (nI 1) := ⟨_, rfl⟩
        have hs := hs y22 ey22
        refine wp_iinc (v := y22) (ls' := [(0, .ref 0), (3, .int x3), (4, .int y22), (5, .int v13)]) 2 [1, 2, 0, 3] dX6_follow_117 rfl (by rw [ey22]; rfl) rfl (by decide) ?_
        refine wp_goto (tgt := 62) dX6_follow_120 (by decide) ?_
        refine wp_sub (ls' := [(0, .ref 0), (3, .int x3), (4, .int y22)]) [0, 1, 2] rfl ?_
        exact ih _ _ hs
def w_X6_follow (a : Int32) (M : Nat → Nat → Int32) (Q : Int32 → (Nat → Nat → Int32) → Prop) : Prop := ((a < (nI 1) → Q (-1002 : Int32) M) ∧ (¬ a < (nI 1) → ((a ≤ (nI 7) → w_X6_hasOrder M (fun v4 M3 => ((¬ v4 = 0 → w_X4_openBends 1 M3 (fun v7 M6 => ((¬ v7 = 0 → w_X0_record 1 M6 (fun M9 => ∀ y10 : Int32, y10 = (if v7 < a then v7 else a) → w_X6_follow_62 FU y10 (nI 0) M9 (fun y23 M24 => w_X4_doneBends 1 M24 (fun v26 M25 => Q v26 M25)))) ∧ (v7 = 0 → Q (-1005 : Int32) M6)))) ∧ (v4 = 0 → Q (-1004 : Int32) M3)))) ∧ (¬ a ≤ (nI 7) → Q (-1002 : Int32) M))))
set_option maxHeartbeats 4000000 in
set_option maxRecDepth 100000 in
theorem mw_X6_follow {E : EN} {a : Int32} {M : Nat → Nat → Int32} {Q : Int32 → (Nat → Nat → Int32) → Prop} (hs : w_X6_follow a M Q) : MW E iX6_follow 7 0 0 false [.ref 0, .int a] σC 46 M (qI σC 46 Q) := by
  refine mw_intro (ls := [(0, .ref 0), (1, .int a)]) rfl (by decide +kernel) rfl rfl (Nat.le_of_ble_eq_true rfl) ?_
  have hQ : ∀ x M, Q x M → (qI σC 46 Q) (some (.int x)) σC 46 M := fun _ _ h => ⟨_, rfl, rfl, rfl, h⟩
  generalize (qI σC 46 Q) = Qf at hQ ⊢
  unfold w_X6_follow at hs
  refine wp_iload_n 1 dX6_follow_0 rfl ?_
  refine wp_iconst (v := (nI 1)) dX6_follow_1 (by decide) ?_
  refine wp_icmp_lt (tgt := 11) dX6_follow_2 (by decide) (fun c1 => ?_) (fun c1 => ?_)
  · have hs := hs.1 c1
    refine wp_sipush (v := (-1002 : Int32)) dX6_follow_11 (by decide) ?_
    exact wp_ireturn rfl rfl dX6_follow_14 (hQ _ _ hs)
  · have hs := hs.2 c1
    refine wp_iload_n 1 dX6_follow_5 rfl ?_
    refine wp_bipush (v := (nI 7)) dX6_follow_6 (by decide) ?_
    refine wp_icmp_le (tgt := 15) dX6_follow_8 (by decide) (fun c2 => ?_) (fun c2 => ?_)
    · have hs := hs.1 c2
      refine wp_aload_n 0 dX6_follow_15 rfl ?_
      refine wp_cVi (As := []) (st := []) (mw_X6_hasOrder  hs) gX6_follow_X6_hasOrder rfl hy_X6_hasOrder rfl rfl (by decide) rfl (by decide) (by decide) (Nat.le_of_ble_eq_true rfl) rfl dX6_follow_16 (fun v4 M3 hs => ?_)
      refine wp_if_ne (tgt := 26) dX6_follow_19 (by decide) (fun c5 => ?_) (fun c5 => ?_)
      · have hs := hs.1 c5
        refine wp_aload_n 0 dX6_follow_26 rfl ?_
        refine wp_get (v := .ref 1) dX6_follow_27 rfl (by decide) rfl in_X6_follow_X6 0 (by decide) fl_X6_follow_10 rfl rfl ?_
        refine wp_cVi (As := []) (st := []) (mw_X4_openBends (by decide) hs) gX6_follow_X4_openBends rfl hy_X4_openBends rfl (σ_isS (by decide)) (lt_isS (by decide)) rfl (by decide) (by decide) (Nat.le_of_ble_eq_true rfl) rfl dX6_follow_30 (fun v7 M6 hs => ?_)
        refine wp_istore_n (ls' := [(0, .ref 0), (1, .int a), (2, .int v7)]) [1, 2, 0] dX6_follow_33 rfl (by decide) ?_
        refine wp_iload_n 2 dX6_follow_34 rfl ?_
        refine wp_if_ne (tgt := 42) dX6_follow_35 (by decide) (fun c8 => ?_) (fun c8 => ?_)
        · have hs := hs.1 c8
          refine wp_aload_n 0 dX6_follow_42 rfl ?_
          refine wp_get (v := .ref 7) dX6_follow_43 rfl (by decide) rfl in_X6_follow_X6 3 (by decide) fl_X6_follow_26 rfl rfl ?_
          refine wp_aload_n 0 dX6_follow_46 rfl ?_
          refine wp_get (v := .ref 1) dX6_follow_47 rfl (by decide) rfl in_X6_follow_X6 0 (by decide) fl_X6_follow_10 rfl rfl ?_
          refine wp_cVv (As := [.ref 1]) (st := []) (mw_X0_record (by decide) hs) gX6_follow_X0_record rfl hy_X0_record rfl rfl (by decide) rfl (by decide) (by decide) (Nat.le_of_ble_eq_true rfl) rfl dX6_follow_50 (fun  M9 hs => ?_)
          refine wp_iload_n 1 dX6_follow_53 rfl ?_
          refine wp_iload_n 2 dX6_follow_54 rfl ?_
          refine wp_mmin (by decide +kernel) (by decide +kernel) (by decide +kernel) (by decide +kernel) (by decide) (Nat.le_of_ble_eq_true rfl) dX6_follow_55 ?_
          refine wp_topi (fun y10 ey10 => ?_)
          have hs := hs y10 ey10
          refine wp_istore_n (ls' := [(0, .ref 0), (1, .int a), (2, .int v7), (3, .int y10)]) [1, 2, 3, 0] dX6_follow_58 rfl (by decide) ?_
          refine wp_iconst (v := (nI 0)) dX6_follow_59 (by decide) ?_
          refine wp_istore (ls' := [(0, .ref 0), (1, .int a), (2, .int v7), (3, .int y10), (4, .int (nI 0))]) [1, 2, 3, 4, 0] dX6_follow_60 rfl (by decide) ?_
          refine wp_sub (ls' := [(0, .ref 0), (3, .int y10), (4, .int (nI 0))]) [0, 3, 4] rfl ?_
          refine lp_X6_follow_62 (K := fun y23 M24 => w_X4_doneBends 1 M24 (fun v26 M25 => Q v26 M25)) (fun y23 M24 hs => ?_) FU _ _ hs
          refine wp_aload_n 0 dX6_follow_123 rfl ?_
          refine wp_get (v := .ref 1) dX6_follow_124 rfl (by decide) rfl in_X6_follow_X6 0 (by decide) fl_X6_follow_10 rfl rfl ?_
          refine wp_cVi (As := []) (st := []) (mw_X4_doneBends (by decide) hs) gX6_follow_X4_doneBends rfl hy_X4_doneBends rfl (σ_isS (by decide)) (lt_isS (by decide)) rfl (by decide) (by decide) (Nat.le_of_ble_eq_true rfl) rfl dX6_follow_127 (fun v26 M25 hs => ?_)
          exact wp_ireturn rfl rfl dX6_follow_130 (hQ _ _ hs)
        · have hs := hs.2 c8
          refine wp_sipush (v := (-1005 : Int32)) dX6_follow_38 (by decide) ?_
          exact wp_ireturn rfl rfl dX6_follow_41 (hQ _ _ hs)
      · have hs := hs.2 c5
        refine wp_sipush (v := (-1004 : Int32)) dX6_follow_22 (by decide) ?_
        exact wp_ireturn rfl rfl dX6_follow_25 (hQ _ _ hs)
    · have hs := hs.2 c2
      refine wp_sipush (v := (-1002 : Int32)) dX6_follow_11 (by decide) ?_
      exact wp_ireturn rfl rfl dX6_follow_14 (hQ _ _ hs)
abbrev iX6_type : MI := (cX6_type, 2, some .int, RX6, yX6_type, wsX6_type)
theorem hy_X6_type : yX6_type.cls = RX6 ∧ yX6_type.cls ≠ "java/lang/invoke/MethodHandle" ∧ yX6_type.cls ≠ "java/lang/invoke/VarHandle" ∧ (parseMethodDescriptor yX6_type.desc).map (fun d => d.parameters.length) = some 1 := by decide +kernel
theorem in_X6_type_X5 : ∀ w ∈ u_ws RX5 TX5 2, w ∈ wsX6_type := by decide +kernel
theorem in_X6_type_X6 : ∀ w ∈ u_ws RX6 TX6 7, w ∈ wsX6_type := by decide +kernel
theorem fl_X6_type_33 : Cond.fieldLink RX6 33 (TX6 4).1 (TX6 4).2.1 (TX6 4).2.2.1 ∈ wsX6_type := by decide +kernel
theorem fl_X6_type_160 : Cond.fieldLink RX6 160 (TX5 0).1 (TX5 0).2.1 (TX5 0).2.2.1 ∈ wsX6_type := by decide +kernel
def w_X6_type (a : Int32) (M : Nat → Nat → Int32) (Q : Int32 → (Nat → Nat → Int32) → Prop) : Prop := ((¬ (M 21 0) = (nI 60) → w_X5_append a M (fun M2 => Q (M2 21 0) M2)) ∧ ((M 21 0) = (nI 60) → Q (-1003 : Int32) M))
set_option maxHeartbeats 4000000 in
set_option maxRecDepth 100000 in
theorem mw_X6_type {E : EN} {a : Int32} {M : Nat → Nat → Int32} {Q : Int32 → (Nat → Nat → Int32) → Prop} (hs : w_X6_type a M Q) : MW E iX6_type 2 0 0 false [.ref 0, .int a] σC 46 M (qI σC 46 Q) := by
  refine mw_intro (ls := [(0, .ref 0), (1, .int a)]) rfl (by decide +kernel) rfl rfl (Nat.le_of_ble_eq_true rfl) ?_
  have hQ : ∀ x M, Q x M → (qI σC 46 Q) (some (.int x)) σC 46 M := fun _ _ h => ⟨_, rfl, rfl, rfl, h⟩
  generalize (qI σC 46 Q) = Qf at hQ ⊢
  unfold w_X6_type at hs
  refine wp_aload_n 0 dX6_type_0 rfl ?_
  refine wp_get (v := .ref 21) dX6_type_1 rfl (by decide) rfl in_X6_type_X6 4 (by decide) fl_X6_type_33 rfl rfl ?_
  refine wp_get (v := .int (M 21 0)) dX6_type_4 rfl (by decide) rfl in_X6_type_X5 0 (by decide) fl_X6_type_160 rfl rfl ?_
  refine wp_bipush (v := (nI 60)) dX6_type_7 (by decide) ?_
  refine wp_icmp_ne (tgt := 16) dX6_type_9 (by decide) (fun c1 => ?_) (fun c1 => ?_)
  · have hs := hs.1 c1
    refine wp_aload_n 0 dX6_type_16 rfl ?_
    refine wp_get (v := .ref 21) dX6_type_17 rfl (by decide) rfl in_X6_type_X6 4 (by decide) fl_X6_type_33 rfl rfl ?_
    refine wp_iload_n 1 dX6_type_20 rfl ?_
    refine wp_cVv (As := [.int a]) (st := []) (mw_X5_append  hs) gX6_type_X5_append rfl hy_X5_append rfl rfl (by decide) rfl (by decide) (by decide) (Nat.le_of_ble_eq_true rfl) rfl dX6_type_21 (fun  M2 hs => ?_)
    refine wp_aload_n 0 dX6_type_24 rfl ?_
    refine wp_get (v := .ref 21) dX6_type_25 rfl (by decide) rfl in_X6_type_X6 4 (by decide) fl_X6_type_33 rfl rfl ?_
    refine wp_get (v := .int (M2 21 0)) dX6_type_28 rfl (by decide) rfl in_X6_type_X5 0 (by decide) fl_X6_type_160 rfl rfl ?_
    exact wp_ireturn rfl rfl dX6_type_31 (hQ _ _ hs)
  · have hs := hs.2 c1
    refine wp_sipush (v := (-1003 : Int32)) dX6_type_12 (by decide) ?_
    exact wp_ireturn rfl rfl dX6_type_15 (hQ _ _ hs)
abbrev iX6_clearText : MI := (cX6_clearText, 2, some .int, RX6, yX6_clearText, wsX6_clearText)
theorem hy_X6_clearText : yX6_clearText.cls = RX6 ∧ yX6_clearText.cls ≠ "java/lang/invoke/MethodHandle" ∧ yX6_clearText.cls ≠ "java/lang/invoke/VarHandle" ∧ (parseMethodDescriptor yX6_clearText.desc).map (fun d => d.parameters.length) = some 0 := by decide +kernel
theorem in_X6_clearText_X5 : ∀ w ∈ u_ws RX5 TX5 2, w ∈ wsX6_clearText := by decide +kernel
theorem in_X6_clearText_X6 : ∀ w ∈ u_ws RX6 TX6 7, w ∈ wsX6_clearText := by decide +kernel
theorem fl_X6_clearText_33 : Cond.fieldLink RX6 33 (TX6 4).1 (TX6 4).2.1 (TX6 4).2.2.1 ∈ wsX6_clearText := by decide +kernel
theorem fl_X6_clearText_160 : Cond.fieldLink RX6 160 (TX5 0).1 (TX5 0).2.1 (TX5 0).2.2.1 ∈ wsX6_clearText := by decide +kernel
def w_X6_clearText (M : Nat → Nat → Int32) (Q : Int32 → (Nat → Nat → Int32) → Prop) : Prop := ∀ y1 : Int32, y1 = (M 21 0) → ∀ M2 : Nat → Nat → Int32, M2 = um M 21 (upd (M 21) 0 (nI 0)) → Q y1 M2
set_option maxHeartbeats 4000000 in
set_option maxRecDepth 100000 in
theorem mw_X6_clearText {E : EN} {M : Nat → Nat → Int32} {Q : Int32 → (Nat → Nat → Int32) → Prop} (hs : w_X6_clearText M Q) : MW E iX6_clearText 1 0 0 false [.ref 0] σC 46 M (qI σC 46 Q) := by
  refine mw_intro (ls := [(0, .ref 0)]) rfl (by decide +kernel) rfl rfl (Nat.le_of_ble_eq_true rfl) ?_
  have hQ : ∀ x M, Q x M → (qI σC 46 Q) (some (.int x)) σC 46 M := fun _ _ h => ⟨_, rfl, rfl, rfl, h⟩
  generalize (qI σC 46 Q) = Qf at hQ ⊢
  unfold w_X6_clearText at hs
  refine wp_aload_n 0 dX6_clearText_0 rfl ?_
  refine wp_get (v := .ref 21) dX6_clearText_1 rfl (by decide) rfl in_X6_clearText_X6 4 (by decide) fl_X6_clearText_33 rfl rfl ?_
  refine wp_get (v := .int (M 21 0)) dX6_clearText_4 rfl (by decide) rfl in_X6_clearText_X5 0 (by decide) fl_X6_clearText_160 rfl rfl ?_
  refine wp_topi (fun y1 ey1 => ?_)
  have hs := hs y1 ey1
  refine wp_istore_n (ls' := [(0, .ref 0), (1, .int y1)]) [1, 0] dX6_clearText_7 rfl (by decide) ?_
  refine wp_aload_n 0 dX6_clearText_8 rfl ?_
  refine wp_get (v := .ref 21) dX6_clearText_9 rfl (by decide) rfl in_X6_clearText_X6 4 (by decide) fl_X6_clearText_33 rfl rfl ?_
  refine wp_iconst (v := (nI 0)) dX6_clearText_12 (by decide) ?_
  refine wp_put (ty := .int) tyX5 tyX5_ok nmX5 rfl (by decide) rfl in_X6_clearText_X5 0 (by decide) fl_X6_clearText_160 rfl rfl (by decide +kernel) rfl rfl dX6_clearText_13 (fun M2 eM2 => ?_)
  have hs := hs M2 eM2
  refine wp_iload_n 1 dX6_clearText_16 rfl ?_
  exact wp_ireturn rfl rfl dX6_clearText_17 (hQ _ _ hs)
abbrev iX6_keep : MI := (cX6_keep, 1, some .int, RX6, yX6_keep, wsX6_keep)
theorem hy_X6_keep : yX6_keep.cls = RX6 ∧ yX6_keep.cls ≠ "java/lang/invoke/MethodHandle" ∧ yX6_keep.cls ≠ "java/lang/invoke/VarHandle" ∧ (parseMethodDescriptor yX6_keep.desc).map (fun d => d.parameters.length) = some 0 := by decide +kernel
theorem in_X6_keep_X6 : ∀ w ∈ u_ws RX6 TX6 7, w ∈ wsX6_keep := by decide +kernel
theorem fl_X6_keep_10 : Cond.fieldLink RX6 10 (TX6 0).1 (TX6 0).2.1 (TX6 0).2.2.1 ∈ wsX6_keep := by decide +kernel
theorem fl_X6_keep_16 : Cond.fieldLink RX6 16 (TX6 1).1 (TX6 1).2.1 (TX6 1).2.2.1 ∈ wsX6_keep := by decide +kernel
theorem fl_X6_keep_19 : Cond.fieldLink RX6 19 (TX6 2).1 (TX6 2).2.1 (TX6 2).2.2.1 ∈ wsX6_keep := by decide +kernel
def w_X6_keep (M : Nat → Nat → Int32) (Q : Int32 → (Nat → Nat → Int32) → Prop) : Prop := w_X4_copyFrom 4 1 M (fun M1 => ∀ M2 : Nat → Nat → Int32, M2 = um M1 0 (upd (M1 0) 2 (nI 1)) → w_X4_doneBends 1 M2 (fun v4 M3 => Q v4 M3))
set_option maxHeartbeats 4000000 in
set_option maxRecDepth 100000 in
theorem mw_X6_keep {E : EN} {M : Nat → Nat → Int32} {Q : Int32 → (Nat → Nat → Int32) → Prop} (hs : w_X6_keep M Q) : MW E iX6_keep 3 0 0 false [.ref 0] σC 46 M (qI σC 46 Q) := by
  refine mw_intro (ls := [(0, .ref 0)]) rfl (by decide +kernel) rfl rfl (Nat.le_of_ble_eq_true rfl) ?_
  have hQ : ∀ x M, Q x M → (qI σC 46 Q) (some (.int x)) σC 46 M := fun _ _ h => ⟨_, rfl, rfl, rfl, h⟩
  generalize (qI σC 46 Q) = Qf at hQ ⊢
  unfold w_X6_keep at hs
  refine wp_aload_n 0 dX6_keep_0 rfl ?_
  refine wp_get (v := .ref 4) dX6_keep_1 rfl (by decide) rfl in_X6_keep_X6 1 (by decide) fl_X6_keep_16 rfl rfl ?_
  refine wp_aload_n 0 dX6_keep_4 rfl ?_
  refine wp_get (v := .ref 1) dX6_keep_5 rfl (by decide) rfl in_X6_keep_X6 0 (by decide) fl_X6_keep_10 rfl rfl ?_
  refine wp_cVv (As := [.ref 1]) (st := []) (mw_X4_copyFrom (by decide) (by decide) hs) gX6_keep_X4_copyFrom rfl hy_X4_copyFrom rfl (σ_isS (by decide)) (lt_isS (by decide)) rfl (by decide) (by decide) (Nat.le_of_ble_eq_true rfl) rfl dX6_keep_8 (fun  M1 hs => ?_)
  refine wp_aload_n 0 dX6_keep_11 rfl ?_
  refine wp_iconst (v := (nI 1)) dX6_keep_12 (by decide) ?_
  refine wp_put (ty := .boolean) tyX6 tyX6_ok nmX6 rfl (by decide) rfl in_X6_keep_X6 2 (by decide) fl_X6_keep_19 rfl rfl (by decide +kernel) rfl rfl dX6_keep_13 (fun M2 eM2 => ?_)
  have hs := hs M2 eM2
  refine wp_aload_n 0 dX6_keep_16 rfl ?_
  refine wp_get (v := .ref 1) dX6_keep_17 rfl (by decide) rfl in_X6_keep_X6 0 (by decide) fl_X6_keep_10 rfl rfl ?_
  refine wp_cVi (As := []) (st := []) (mw_X4_doneBends (by decide) hs) gX6_keep_X4_doneBends rfl hy_X4_doneBends rfl (σ_isS (by decide)) (lt_isS (by decide)) rfl (by decide) (by decide) (Nat.le_of_ble_eq_true rfl) rfl dX6_keep_20 (fun v4 M3 hs => ?_)
  exact wp_ireturn rfl rfl dX6_keep_23 (hQ _ _ hs)
abbrev iX6_restore : MI := (cX6_restore, 1, some .int, RX6, yX6_restore, wsX6_restore)
theorem hy_X6_restore : yX6_restore.cls = RX6 ∧ yX6_restore.cls ≠ "java/lang/invoke/MethodHandle" ∧ yX6_restore.cls ≠ "java/lang/invoke/VarHandle" ∧ (parseMethodDescriptor yX6_restore.desc).map (fun d => d.parameters.length) = some 0 := by decide +kernel
theorem in_X6_restore_X6 : ∀ w ∈ u_ws RX6 TX6 7, w ∈ wsX6_restore := by decide +kernel
theorem fl_X6_restore_10 : Cond.fieldLink RX6 10 (TX6 0).1 (TX6 0).2.1 (TX6 0).2.2.1 ∈ wsX6_restore := by decide +kernel
theorem fl_X6_restore_16 : Cond.fieldLink RX6 16 (TX6 1).1 (TX6 1).2.1 (TX6 1).2.2.1 ∈ wsX6_restore := by decide +kernel
theorem fl_X6_restore_19 : Cond.fieldLink RX6 19 (TX6 2).1 (TX6 2).2.1 (TX6 2).2.2.1 ∈ wsX6_restore := by decide +kernel
theorem fl_X6_restore_26 : Cond.fieldLink RX6 26 (TX6 3).1 (TX6 3).2.1 (TX6 3).2.2.1 ∈ wsX6_restore := by decide +kernel
def w_X6_restore (M : Nat → Nat → Int32) (Q : Int32 → (Nat → Nat → Int32) → Prop) : Prop := ((¬ (M 0 2) = 0 → w_X0_record 1 M (fun M2 => w_X4_copyFrom 1 4 M2 (fun M3 => w_X4_doneBends 1 M3 (fun v5 M4 => Q v5 M4)))) ∧ ((M 0 2) = 0 → Q (-1005 : Int32) M))
set_option maxHeartbeats 4000000 in
set_option maxRecDepth 100000 in
theorem mw_X6_restore {E : EN} {M : Nat → Nat → Int32} {Q : Int32 → (Nat → Nat → Int32) → Prop} (hs : w_X6_restore M Q) : MW E iX6_restore 4 0 0 false [.ref 0] σC 46 M (qI σC 46 Q) := by
  refine mw_intro (ls := [(0, .ref 0)]) rfl (by decide +kernel) rfl rfl (Nat.le_of_ble_eq_true rfl) ?_
  have hQ : ∀ x M, Q x M → (qI σC 46 Q) (some (.int x)) σC 46 M := fun _ _ h => ⟨_, rfl, rfl, rfl, h⟩
  generalize (qI σC 46 Q) = Qf at hQ ⊢
  unfold w_X6_restore at hs
  refine wp_aload_n 0 dX6_restore_0 rfl ?_
  refine wp_get (v := .int (M 0 2)) dX6_restore_1 rfl (by decide) rfl in_X6_restore_X6 2 (by decide) fl_X6_restore_19 rfl rfl ?_
  refine wp_if_ne (tgt := 11) dX6_restore_4 (by decide) (fun c1 => ?_) (fun c1 => ?_)
  · have hs := hs.1 c1
    refine wp_aload_n 0 dX6_restore_11 rfl ?_
    refine wp_get (v := .ref 7) dX6_restore_12 rfl (by decide) rfl in_X6_restore_X6 3 (by decide) fl_X6_restore_26 rfl rfl ?_
    refine wp_aload_n 0 dX6_restore_15 rfl ?_
    refine wp_get (v := .ref 1) dX6_restore_16 rfl (by decide) rfl in_X6_restore_X6 0 (by decide) fl_X6_restore_10 rfl rfl ?_
    refine wp_cVv (As := [.ref 1]) (st := []) (mw_X0_record (by decide) hs) gX6_restore_X0_record rfl hy_X0_record rfl rfl (by decide) rfl (by decide) (by decide) (Nat.le_of_ble_eq_true rfl) rfl dX6_restore_19 (fun  M2 hs => ?_)
    refine wp_aload_n 0 dX6_restore_22 rfl ?_
    refine wp_get (v := .ref 1) dX6_restore_23 rfl (by decide) rfl in_X6_restore_X6 0 (by decide) fl_X6_restore_10 rfl rfl ?_
    refine wp_aload_n 0 dX6_restore_26 rfl ?_
    refine wp_get (v := .ref 4) dX6_restore_27 rfl (by decide) rfl in_X6_restore_X6 1 (by decide) fl_X6_restore_16 rfl rfl ?_
    refine wp_cVv (As := [.ref 4]) (st := []) (mw_X4_copyFrom (by decide) (by decide) hs) gX6_restore_X4_copyFrom rfl hy_X4_copyFrom rfl (σ_isS (by decide)) (lt_isS (by decide)) rfl (by decide) (by decide) (Nat.le_of_ble_eq_true rfl) rfl dX6_restore_30 (fun  M3 hs => ?_)
    refine wp_aload_n 0 dX6_restore_33 rfl ?_
    refine wp_get (v := .ref 1) dX6_restore_34 rfl (by decide) rfl in_X6_restore_X6 0 (by decide) fl_X6_restore_10 rfl rfl ?_
    refine wp_cVi (As := []) (st := []) (mw_X4_doneBends (by decide) hs) gX6_restore_X4_doneBends rfl hy_X4_doneBends rfl (σ_isS (by decide)) (lt_isS (by decide)) rfl (by decide) (by decide) (Nat.le_of_ble_eq_true rfl) rfl dX6_restore_37 (fun v5 M4 hs => ?_)
    exact wp_ireturn rfl rfl dX6_restore_40 (hQ _ _ hs)
  · have hs := hs.2 c1
    refine wp_sipush (v := (-1005 : Int32)) dX6_restore_7 (by decide) ?_
    exact wp_ireturn rfl rfl dX6_restore_10 (hQ _ _ hs)
abbrev iX6_ofBend : MI := (cX6_ofBend, 3, some .int, RX6, yX6_ofBend, wsX6_ofBend)
theorem hy_X6_ofBend : yX6_ofBend.cls = RX6 ∧ yX6_ofBend.cls ≠ "java/lang/invoke/MethodHandle" ∧ yX6_ofBend.cls ≠ "java/lang/invoke/VarHandle" ∧ (parseMethodDescriptor yX6_ofBend.desc).map (fun d => d.parameters.length) = some 2 := by decide +kernel
theorem in_X6_ofBend_X4 : ∀ w ∈ u_ws RX4 TX4 7, w ∈ wsX6_ofBend := by decide +kernel
theorem in_X6_ofBend_X6 : ∀ w ∈ u_ws RX6 TX6 7, w ∈ wsX6_ofBend := by decide +kernel
theorem fl_X6_ofBend_10 : Cond.fieldLink RX6 10 (TX6 0).1 (TX6 0).2.1 (TX6 0).2.2.1 ∈ wsX6_ofBend := by decide +kernel
theorem fl_X6_ofBend_40 : Cond.fieldLink RX6 40 (TX6 5).1 (TX6 5).2.1 (TX6 5).2.2.1 ∈ wsX6_ofBend := by decide +kernel
theorem fl_X6_ofBend_86 : Cond.fieldLink RX6 86 (TX4 2).1 (TX4 2).2.1 (TX4 2).2.2.1 ∈ wsX6_ofBend := by decide +kernel
theorem fl_X6_ofBend_124 : Cond.fieldLink RX6 124 (TX4 3).1 (TX4 3).2.1 (TX4 3).2.2.1 ∈ wsX6_ofBend := by decide +kernel
def w_X6_ofBend (a : Int32) (b : Int32) (M : Nat → Nat → Int32) (Q : Int32 → (Nat → Nat → Int32) → Prop) : Prop := w_X4_hasBend 1 a M (fun v2 M1 => ((¬ v2 = 0 → ((b = nI 0 → w_X4_isUp 1 a M1 (fun v6 M5 => w_X6_asNumber v6 M5 (fun v8 M7 => Q v8 M7))) ∧ (¬ b = nI 0 → ((b = nI 1 → w_X4_isDone 1 a M1 (fun v11 M10 => w_X6_asNumber v11 M10 (fun v13 M12 => Q v13 M12))) ∧ (¬ b = nI 1 → ((b = nI 2 → w_X2_reason 23 1 a (M1 1 2) (M1 1 3) M1 (fun v16 M15 => Q v16 M15)) ∧ (¬ b = nI 2 → ((b = nI 3 → w_X4_degrees 1 a M1 (fun v19 M18 => Q v19 M18)) ∧ (¬ b = nI 3 → ((b = nI 4 → ((¬ (M1 1 3) = 0 → w_X2_reason 23 1 a (M1 1 2) (nI 0) M1 (fun v23 M22 => Q v23 M22)) ∧ ((M1 1 3) = 0 → w_X2_reason 23 1 a (M1 1 2) (nI 1) M1 (fun v25 M24 => Q v25 M24)))) ∧ (¬ b = nI 4 → Q (-1002 : Int32) M1))))))))))) ∧ (v2 = 0 → Q (-1001 : Int32) M1)))
set_option maxHeartbeats 4000000 in
set_option maxRecDepth 100000 in
theorem mw_X6_ofBend {E : EN} {a : Int32} {b : Int32} {M : Nat → Nat → Int32} {Q : Int32 → (Nat → Nat → Int32) → Prop} (hs : w_X6_ofBend a b M Q) : MW E iX6_ofBend 4 0 0 false [.ref 0, .int a, .int b] σC 46 M (qI σC 46 Q) := by
  refine mw_intro (ls := [(0, .ref 0), (1, .int a), (2, .int b)]) rfl (by decide +kernel) rfl rfl (Nat.le_of_ble_eq_true rfl) ?_
  have hQ : ∀ x M, Q x M → (qI σC 46 Q) (some (.int x)) σC 46 M := fun _ _ h => ⟨_, rfl, rfl, rfl, h⟩
  generalize (qI σC 46 Q) = Qf at hQ ⊢
  unfold w_X6_ofBend at hs
  refine wp_aload_n 0 dX6_ofBend_0 rfl ?_
  refine wp_get (v := .ref 1) dX6_ofBend_1 rfl (by decide) rfl in_X6_ofBend_X6 0 (by decide) fl_X6_ofBend_10 rfl rfl ?_
  refine wp_iload_n 1 dX6_ofBend_4 rfl ?_
  refine wp_cVi (As := [.int a]) (st := []) (mw_X4_hasBend (by decide) hs) gX6_ofBend_X4_hasBend rfl hy_X4_hasBend rfl (σ_isS (by decide)) (lt_isS (by decide)) rfl (by decide) (by decide) (Nat.le_of_ble_eq_true rfl) rfl dX6_ofBend_5 (fun v2 M1 hs => ?_)
  refine wp_if_ne (tgt := 15) dX6_ofBend_8 (by decide) (fun c3 => ?_) (fun c3 => ?_)
  · have hs := hs.1 c3
    refine wp_iload_n 2 dX6_ofBend_15 rfl ?_
    by_cases c4 : b = nI 0
    · have hs := hs.1 c4
      refine wp_tableIn (off := 36) (tgt := 52) dX6_ofBend_16 (by rw [c4]; decide) (by rw [c4]; decide) (by rw [c4]; decide +kernel) (by decide) ?_
      refine wp_aload_n 0 dX6_ofBend_52 rfl ?_
      refine wp_get (v := .ref 1) dX6_ofBend_53 rfl (by decide) rfl in_X6_ofBend_X6 0 (by decide) fl_X6_ofBend_10 rfl rfl ?_
      refine wp_iload_n 1 dX6_ofBend_56 rfl ?_
      refine wp_cVi (As := [.int a]) (st := []) (mw_X4_isUp (by decide) hs) gX6_ofBend_X4_isUp rfl hy_X4_isUp rfl (σ_isS (by decide)) (lt_isS (by decide)) rfl (by decide) (by decide) (Nat.le_of_ble_eq_true rfl) rfl dX6_ofBend_57 (fun v6 M5 hs => ?_)
      refine wp_cSi (As := [.int v6]) (st := []) (mw_X6_asNumber  hs) gX6_ofBend_X6_asNumber rfl hy_X6_asNumber rfl (by decide) (by decide) (Nat.le_of_ble_eq_true rfl) rfl dX6_ofBend_60 (fun v8 M7 hs => ?_)
      exact wp_ireturn rfl rfl dX6_ofBend_63 (hQ _ _ hs)
    have hs := hs.2 c4
    by_cases c9 : b = nI 1
    · have hs := hs.1 c9
      refine wp_tableIn (off := 48) (tgt := 64) dX6_ofBend_16 (by rw [c9]; decide) (by rw [c9]; decide) (by rw [c9]; decide +kernel) (by decide) ?_
      refine wp_aload_n 0 dX6_ofBend_64 rfl ?_
      refine wp_get (v := .ref 1) dX6_ofBend_65 rfl (by decide) rfl in_X6_ofBend_X6 0 (by decide) fl_X6_ofBend_10 rfl rfl ?_
      refine wp_iload_n 1 dX6_ofBend_68 rfl ?_
      refine wp_cVi (As := [.int a]) (st := []) (mw_X4_isDone (by decide) hs) gX6_ofBend_X4_isDone rfl hy_X4_isDone rfl (σ_isS (by decide)) (lt_isS (by decide)) rfl (by decide) (by decide) (Nat.le_of_ble_eq_true rfl) rfl dX6_ofBend_69 (fun v11 M10 hs => ?_)
      refine wp_cSi (As := [.int v11]) (st := []) (mw_X6_asNumber  hs) gX6_ofBend_X6_asNumber rfl hy_X6_asNumber rfl (by decide) (by decide) (Nat.le_of_ble_eq_true rfl) rfl dX6_ofBend_72 (fun v13 M12 hs => ?_)
      exact wp_ireturn rfl rfl dX6_ofBend_75 (hQ _ _ hs)
    have hs := hs.2 c9
    by_cases c14 : b = nI 2
    · have hs := hs.1 c14
      refine wp_tableIn (off := 60) (tgt := 76) dX6_ofBend_16 (by rw [c14]; decide) (by rw [c14]; decide) (by rw [c14]; decide +kernel) (by decide) ?_
      refine wp_aload_n 0 dX6_ofBend_76 rfl ?_
      refine wp_get (v := .ref 23) dX6_ofBend_77 rfl (by decide) rfl in_X6_ofBend_X6 5 (by decide) fl_X6_ofBend_40 rfl rfl ?_
      refine wp_aload_n 0 dX6_ofBend_80 rfl ?_
      refine wp_get (v := .ref 1) dX6_ofBend_81 rfl (by decide) rfl in_X6_ofBend_X6 0 (by decide) fl_X6_ofBend_10 rfl rfl ?_
      refine wp_iload_n 1 dX6_ofBend_84 rfl ?_
      refine wp_aload_n 0 dX6_ofBend_85 rfl ?_
      refine wp_get (v := .ref 1) dX6_ofBend_86 rfl (by decide) rfl in_X6_ofBend_X6 0 (by decide) fl_X6_ofBend_10 rfl rfl ?_
      refine wp_get (v := .int (M1 1 2)) dX6_ofBend_89 (σ_isS (by decide)) (lt_isS (by decide)) rfl in_X6_ofBend_X4 2 (by decide) fl_X6_ofBend_86 rfl rfl ?_
      refine wp_aload_n 0 dX6_ofBend_92 rfl ?_
      refine wp_get (v := .ref 1) dX6_ofBend_93 rfl (by decide) rfl in_X6_ofBend_X6 0 (by decide) fl_X6_ofBend_10 rfl rfl ?_
      refine wp_get (v := .int (M1 1 3)) dX6_ofBend_96 (σ_isS (by decide)) (lt_isS (by decide)) rfl in_X6_ofBend_X4 3 (by decide) fl_X6_ofBend_124 rfl rfl ?_
      refine wp_cVi (As := [.ref 1, .int a, .int (M1 1 2), .int (M1 1 3)]) (st := []) (mw_X2_reason (by decide) (by decide) hs) gX6_ofBend_X2_reason rfl hy_X2_reason rfl (σ_isP (by decide)) (lt_isP (by decide)) rfl (by decide) (by decide) (Nat.le_of_ble_eq_true rfl) rfl dX6_ofBend_99 (fun v16 M15 hs => ?_)
      exact wp_ireturn rfl rfl dX6_ofBend_102 (hQ _ _ hs)
    have hs := hs.2 c14
    by_cases c17 : b = nI 3
    · have hs := hs.1 c17
      refine wp_tableIn (off := 87) (tgt := 103) dX6_ofBend_16 (by rw [c17]; decide) (by rw [c17]; decide) (by rw [c17]; decide +kernel) (by decide) ?_
      refine wp_aload_n 0 dX6_ofBend_103 rfl ?_
      refine wp_get (v := .ref 1) dX6_ofBend_104 rfl (by decide) rfl in_X6_ofBend_X6 0 (by decide) fl_X6_ofBend_10 rfl rfl ?_
      refine wp_iload_n 1 dX6_ofBend_107 rfl ?_
      refine wp_cVi (As := [.int a]) (st := []) (mw_X4_degrees (by decide) hs) gX6_ofBend_X4_degrees rfl hy_X4_degrees rfl (σ_isS (by decide)) (lt_isS (by decide)) rfl (by decide) (by decide) (Nat.le_of_ble_eq_true rfl) rfl dX6_ofBend_108 (fun v19 M18 hs => ?_)
      exact wp_ireturn rfl rfl dX6_ofBend_111 (hQ _ _ hs)
    have hs := hs.2 c17
    by_cases c20 : b = nI 4
    · have hs := hs.1 c20
      refine wp_tableIn (off := 96) (tgt := 112) dX6_ofBend_16 (by rw [c20]; decide) (by rw [c20]; decide) (by rw [c20]; decide +kernel) (by decide) ?_
      refine wp_aload_n 0 dX6_ofBend_112 rfl ?_
      refine wp_get (v := .ref 23) dX6_ofBend_113 rfl (by decide) rfl in_X6_ofBend_X6 5 (by decide) fl_X6_ofBend_40 rfl rfl ?_
      refine wp_aload_n 0 dX6_ofBend_116 rfl ?_
      refine wp_get (v := .ref 1) dX6_ofBend_117 rfl (by decide) rfl in_X6_ofBend_X6 0 (by decide) fl_X6_ofBend_10 rfl rfl ?_
      refine wp_iload_n 1 dX6_ofBend_120 rfl ?_
      refine wp_aload_n 0 dX6_ofBend_121 rfl ?_
      refine wp_get (v := .ref 1) dX6_ofBend_122 rfl (by decide) rfl in_X6_ofBend_X6 0 (by decide) fl_X6_ofBend_10 rfl rfl ?_
      refine wp_get (v := .int (M1 1 2)) dX6_ofBend_125 (σ_isS (by decide)) (lt_isS (by decide)) rfl in_X6_ofBend_X4 2 (by decide) fl_X6_ofBend_86 rfl rfl ?_
      refine wp_aload_n 0 dX6_ofBend_128 rfl ?_
      refine wp_get (v := .ref 1) dX6_ofBend_129 rfl (by decide) rfl in_X6_ofBend_X6 0 (by decide) fl_X6_ofBend_10 rfl rfl ?_
      refine wp_get (v := .int (M1 1 3)) dX6_ofBend_132 (σ_isS (by decide)) (lt_isS (by decide)) rfl in_X6_ofBend_X4 3 (by decide) fl_X6_ofBend_124 rfl rfl ?_
      refine wp_if_ne (tgt := 142) dX6_ofBend_135 (by decide) (fun c21 => ?_) (fun c21 => ?_)
      · have hs := hs.1 c21
        refine wp_iconst (v := (nI 0)) dX6_ofBend_142 (by decide) ?_
        refine wp_cVi (As := [.ref 1, .int a, .int (M1 1 2), .int (nI 0)]) (st := []) (mw_X2_reason (by decide) (by decide) hs) gX6_ofBend_X2_reason rfl hy_X2_reason rfl (σ_isP (by decide)) (lt_isP (by decide)) rfl (by decide) (by decide) (Nat.le_of_ble_eq_true rfl) rfl dX6_ofBend_143 (fun v23 M22 hs => ?_)
        exact wp_ireturn rfl rfl dX6_ofBend_146 (hQ _ _ hs)
      · have hs := hs.2 c21
        refine wp_iconst (v := (nI 1)) dX6_ofBend_138 (by decide) ?_
        refine wp_goto (tgt := 143) dX6_ofBend_139 (by decide) ?_
        refine wp_cVi (As := [.ref 1, .int a, .int (M1 1 2), .int (nI 1)]) (st := []) (mw_X2_reason (by decide) (by decide) hs) gX6_ofBend_X2_reason rfl hy_X2_reason rfl (σ_isP (by decide)) (lt_isP (by decide)) rfl (by decide) (by decide) (Nat.le_of_ble_eq_true rfl) rfl dX6_ofBend_143 (fun v25 M24 hs => ?_)
        exact wp_ireturn rfl rfl dX6_ofBend_146 (hQ _ _ hs)
    have hs := hs.2 c20
    have ac4 : ¬ (b).toInt = 0 := fun h => c4 (Int32.toInt_inj.mp (h.trans (by decide)))
    have ac9 : ¬ (b).toInt = 1 := fun h => c9 (Int32.toInt_inj.mp (h.trans (by decide)))
    have ac14 : ¬ (b).toInt = 2 := fun h => c14 (Int32.toInt_inj.mp (h.trans (by decide)))
    have ac17 : ¬ (b).toInt = 3 := fun h => c17 (Int32.toInt_inj.mp (h.trans (by decide)))
    have ac20 : ¬ (b).toInt = 4 := fun h => c20 (Int32.toInt_inj.mp (h.trans (by decide)))
    refine wp_tableOut (tgt := 147) dX6_ofBend_16 (by omega) (by decide) ?_
    refine wp_sipush (v := (-1002 : Int32)) dX6_ofBend_147 (by decide) ?_
    exact wp_ireturn rfl rfl dX6_ofBend_150 (hQ _ _ hs)
  · have hs := hs.2 c3
    refine wp_sipush (v := (-1001 : Int32)) dX6_ofBend_11 (by decide) ?_
    exact wp_ireturn rfl rfl dX6_ofBend_14 (hQ _ _ hs)
abbrev iX6_lengthOf : MI := (cX6_lengthOf, 2, some .int, RX6, yX6_lengthOf, wsX6_lengthOf)
theorem hy_X6_lengthOf : yX6_lengthOf.cls = RX6 ∧ yX6_lengthOf.cls ≠ "java/lang/invoke/MethodHandle" ∧ yX6_lengthOf.cls ≠ "java/lang/invoke/VarHandle" ∧ (parseMethodDescriptor yX6_lengthOf.desc).map (fun d => d.parameters.length) = some 1 := by decide +kernel
theorem in_X6_lengthOf_X6 : ∀ w ∈ u_ws RX6 TX6 7, w ∈ wsX6_lengthOf := by decide +kernel
theorem fl_X6_lengthOf_10 : Cond.fieldLink RX6 10 (TX6 0).1 (TX6 0).2.1 (TX6 0).2.2.1 ∈ wsX6_lengthOf := by decide +kernel
def w_X6_lengthOf (a : Int32) (M : Nat → Nat → Int32) (Q : Int32 → (Nat → Nat → Int32) → Prop) : Prop := w_X4_hasFlange 1 a M (fun v2 M1 => ((¬ v2 = 0 → w_X4_lengthAt 1 a M1 (fun v5 M4 => Q v5 M4)) ∧ (v2 = 0 → Q (-1001 : Int32) M1)))
set_option maxHeartbeats 4000000 in
set_option maxRecDepth 100000 in
theorem mw_X6_lengthOf {E : EN} {a : Int32} {M : Nat → Nat → Int32} {Q : Int32 → (Nat → Nat → Int32) → Prop} (hs : w_X6_lengthOf a M Q) : MW E iX6_lengthOf 2 0 0 false [.ref 0, .int a] σC 46 M (qI σC 46 Q) := by
  refine mw_intro (ls := [(0, .ref 0), (1, .int a)]) rfl (by decide +kernel) rfl rfl (Nat.le_of_ble_eq_true rfl) ?_
  have hQ : ∀ x M, Q x M → (qI σC 46 Q) (some (.int x)) σC 46 M := fun _ _ h => ⟨_, rfl, rfl, rfl, h⟩
  generalize (qI σC 46 Q) = Qf at hQ ⊢
  unfold w_X6_lengthOf at hs
  refine wp_aload_n 0 dX6_lengthOf_0 rfl ?_
  refine wp_get (v := .ref 1) dX6_lengthOf_1 rfl (by decide) rfl in_X6_lengthOf_X6 0 (by decide) fl_X6_lengthOf_10 rfl rfl ?_
  refine wp_iload_n 1 dX6_lengthOf_4 rfl ?_
  refine wp_cVi (As := [.int a]) (st := []) (mw_X4_hasFlange (by decide) hs) gX6_lengthOf_X4_hasFlange rfl hy_X4_hasFlange rfl (σ_isS (by decide)) (lt_isS (by decide)) rfl (by decide) (by decide) (Nat.le_of_ble_eq_true rfl) rfl dX6_lengthOf_5 (fun v2 M1 hs => ?_)
  refine wp_if_ne (tgt := 15) dX6_lengthOf_8 (by decide) (fun c3 => ?_) (fun c3 => ?_)
  · have hs := hs.1 c3
    refine wp_aload_n 0 dX6_lengthOf_15 rfl ?_
    refine wp_get (v := .ref 1) dX6_lengthOf_16 rfl (by decide) rfl in_X6_lengthOf_X6 0 (by decide) fl_X6_lengthOf_10 rfl rfl ?_
    refine wp_iload_n 1 dX6_lengthOf_19 rfl ?_
    refine wp_cVi (As := [.int a]) (st := []) (mw_X4_lengthAt (by decide) hs) gX6_lengthOf_X4_lengthAt rfl hy_X4_lengthAt rfl (σ_isS (by decide)) (lt_isS (by decide)) rfl (by decide) (by decide) (Nat.le_of_ble_eq_true rfl) rfl dX6_lengthOf_20 (fun v5 M4 hs => ?_)
    exact wp_ireturn rfl rfl dX6_lengthOf_23 (hQ _ _ hs)
  · have hs := hs.2 c3
    refine wp_sipush (v := (-1001 : Int32)) dX6_lengthOf_11 (by decide) ?_
    exact wp_ireturn rfl rfl dX6_lengthOf_14 (hQ _ _ hs)
abbrev iX6_end : MI := (cX6_end, 4, some .int, RX6, yX6_end, wsX6_end)
theorem hy_X6_end : yX6_end.cls = RX6 ∧ yX6_end.cls ≠ "java/lang/invoke/MethodHandle" ∧ yX6_end.cls ≠ "java/lang/invoke/VarHandle" ∧ (parseMethodDescriptor yX6_end.desc).map (fun d => d.parameters.length) = some 3 := by decide +kernel
theorem in_X6_end_X6 : ∀ w ∈ u_ws RX6 TX6 7, w ∈ wsX6_end := by decide +kernel
theorem fl_X6_end_10 : Cond.fieldLink RX6 10 (TX6 0).1 (TX6 0).2.1 (TX6 0).2.2.1 ∈ wsX6_end := by decide +kernel
theorem fl_X6_end_40 : Cond.fieldLink RX6 40 (TX6 5).1 (TX6 5).2.1 (TX6 5).2.2.1 ∈ wsX6_end := by decide +kernel
def w_X6_end (a : Int32) (b : Int32) (c : Int32) (M : Nat → Nat → Int32) (Q : Int32 → (Nat → Nat → Int32) → Prop) : Prop := w_X4_hasBend 1 a M (fun v2 M1 => ((v2 = 0 → Q (-1001 : Int32) M1) ∧ (¬ v2 = 0 → w_X4_hasFlange 1 b M1 (fun v5 M4 => ((¬ v5 = 0 → w_X2_farEnd 23 1 a b c M4 (fun v8 M7 => Q v8 M7)) ∧ (v5 = 0 → Q (-1001 : Int32) M4))))))
set_option maxHeartbeats 4000000 in
set_option maxRecDepth 100000 in
theorem mw_X6_end {E : EN} {a : Int32} {b : Int32} {c : Int32} {M : Nat → Nat → Int32} {Q : Int32 → (Nat → Nat → Int32) → Prop} (hs : w_X6_end a b c M Q) : MW E iX6_end 4 0 0 false [.ref 0, .int a, .int b, .int c] σC 46 M (qI σC 46 Q) := by
  refine mw_intro (ls := [(0, .ref 0), (1, .int a), (2, .int b), (3, .int c)]) rfl (by decide +kernel) rfl rfl (Nat.le_of_ble_eq_true rfl) ?_
  have hQ : ∀ x M, Q x M → (qI σC 46 Q) (some (.int x)) σC 46 M := fun _ _ h => ⟨_, rfl, rfl, rfl, h⟩
  generalize (qI σC 46 Q) = Qf at hQ ⊢
  unfold w_X6_end at hs
  refine wp_aload_n 0 dX6_end_0 rfl ?_
  refine wp_get (v := .ref 1) dX6_end_1 rfl (by decide) rfl in_X6_end_X6 0 (by decide) fl_X6_end_10 rfl rfl ?_
  refine wp_iload_n 1 dX6_end_4 rfl ?_
  refine wp_cVi (As := [.int a]) (st := []) (mw_X4_hasBend (by decide) hs) gX6_end_X4_hasBend rfl hy_X4_hasBend rfl (σ_isS (by decide)) (lt_isS (by decide)) rfl (by decide) (by decide) (Nat.le_of_ble_eq_true rfl) rfl dX6_end_5 (fun v2 M1 hs => ?_)
  refine wp_if_eq (tgt := 22) dX6_end_8 (by decide) (fun c3 => ?_) (fun c3 => ?_)
  · have hs := hs.1 c3
    refine wp_sipush (v := (-1001 : Int32)) dX6_end_22 (by decide) ?_
    exact wp_ireturn rfl rfl dX6_end_25 (hQ _ _ hs)
  · have hs := hs.2 c3
    refine wp_aload_n 0 dX6_end_11 rfl ?_
    refine wp_get (v := .ref 1) dX6_end_12 rfl (by decide) rfl in_X6_end_X6 0 (by decide) fl_X6_end_10 rfl rfl ?_
    refine wp_iload_n 2 dX6_end_15 rfl ?_
    refine wp_cVi (As := [.int b]) (st := []) (mw_X4_hasFlange (by decide) hs) gX6_end_X4_hasFlange rfl hy_X4_hasFlange rfl (σ_isS (by decide)) (lt_isS (by decide)) rfl (by decide) (by decide) (Nat.le_of_ble_eq_true rfl) rfl dX6_end_16 (fun v5 M4 hs => ?_)
    refine wp_if_ne (tgt := 26) dX6_end_19 (by decide) (fun c6 => ?_) (fun c6 => ?_)
    · have hs := hs.1 c6
      refine wp_aload_n 0 dX6_end_26 rfl ?_
      refine wp_get (v := .ref 23) dX6_end_27 rfl (by decide) rfl in_X6_end_X6 5 (by decide) fl_X6_end_40 rfl rfl ?_
      refine wp_aload_n 0 dX6_end_30 rfl ?_
      refine wp_get (v := .ref 1) dX6_end_31 rfl (by decide) rfl in_X6_end_X6 0 (by decide) fl_X6_end_10 rfl rfl ?_
      refine wp_iload_n 1 dX6_end_34 rfl ?_
      refine wp_iload_n 2 dX6_end_35 rfl ?_
      refine wp_iload_n 3 dX6_end_36 rfl ?_
      refine wp_cVi (As := [.ref 1, .int a, .int b, .int c]) (st := []) (mw_X2_farEnd (by decide) (by decide) hs) gX6_end_X2_farEnd rfl hy_X2_farEnd rfl (σ_isP (by decide)) (lt_isP (by decide)) rfl (by decide) (by decide) (Nat.le_of_ble_eq_true rfl) rfl dX6_end_37 (fun v8 M7 hs => ?_)
      exact wp_ireturn rfl rfl dX6_end_40 (hQ _ _ hs)
    · have hs := hs.2 c6
      refine wp_sipush (v := (-1001 : Int32)) dX6_end_22 (by decide) ?_
      exact wp_ireturn rfl rfl dX6_end_25 (hQ _ _ hs)
abbrev iX6_strikers : MI := (cX6_strikers, 2, some .int, RX6, yX6_strikers, wsX6_strikers)
theorem hy_X6_strikers : yX6_strikers.cls = RX6 ∧ yX6_strikers.cls ≠ "java/lang/invoke/MethodHandle" ∧ yX6_strikers.cls ≠ "java/lang/invoke/VarHandle" ∧ (parseMethodDescriptor yX6_strikers.desc).map (fun d => d.parameters.length) = some 1 := by decide +kernel
theorem in_X6_strikers_X4 : ∀ w ∈ u_ws RX4 TX4 7, w ∈ wsX6_strikers := by decide +kernel
theorem in_X6_strikers_X6 : ∀ w ∈ u_ws RX6 TX6 7, w ∈ wsX6_strikers := by decide +kernel
theorem fl_X6_strikers_10 : Cond.fieldLink RX6 10 (TX6 0).1 (TX6 0).2.1 (TX6 0).2.2.1 ∈ wsX6_strikers := by decide +kernel
theorem fl_X6_strikers_40 : Cond.fieldLink RX6 40 (TX6 5).1 (TX6 5).2.1 (TX6 5).2.2.1 ∈ wsX6_strikers := by decide +kernel
theorem fl_X6_strikers_86 : Cond.fieldLink RX6 86 (TX4 2).1 (TX4 2).2.1 (TX4 2).2.2.1 ∈ wsX6_strikers := by decide +kernel
theorem fl_X6_strikers_124 : Cond.fieldLink RX6 124 (TX4 3).1 (TX4 3).2.1 (TX4 3).2.2.1 ∈ wsX6_strikers := by decide +kernel
def w_X6_strikers (a : Int32) (M : Nat → Nat → Int32) (Q : Int32 → (Nat → Nat → Int32) → Prop) : Prop := w_X4_hasBend 1 a M (fun v2 M1 => ((¬ v2 = 0 → w_X2_upperStrikers 23 1 a (M1 1 2) (M1 1 3) M1 (fun v5 M4 => Q v5 M4)) ∧ (v2 = 0 → Q (-1001 : Int32) M1)))
set_option maxHeartbeats 4000000 in
set_option maxRecDepth 100000 in
theorem mw_X6_strikers {E : EN} {a : Int32} {M : Nat → Nat → Int32} {Q : Int32 → (Nat → Nat → Int32) → Prop} (hs : w_X6_strikers a M Q) : MW E iX6_strikers 4 0 0 false [.ref 0, .int a] σC 46 M (qI σC 46 Q) := by
  refine mw_intro (ls := [(0, .ref 0), (1, .int a)]) rfl (by decide +kernel) rfl rfl (Nat.le_of_ble_eq_true rfl) ?_
  have hQ : ∀ x M, Q x M → (qI σC 46 Q) (some (.int x)) σC 46 M := fun _ _ h => ⟨_, rfl, rfl, rfl, h⟩
  generalize (qI σC 46 Q) = Qf at hQ ⊢
  unfold w_X6_strikers at hs
  refine wp_aload_n 0 dX6_strikers_0 rfl ?_
  refine wp_get (v := .ref 1) dX6_strikers_1 rfl (by decide) rfl in_X6_strikers_X6 0 (by decide) fl_X6_strikers_10 rfl rfl ?_
  refine wp_iload_n 1 dX6_strikers_4 rfl ?_
  refine wp_cVi (As := [.int a]) (st := []) (mw_X4_hasBend (by decide) hs) gX6_strikers_X4_hasBend rfl hy_X4_hasBend rfl (σ_isS (by decide)) (lt_isS (by decide)) rfl (by decide) (by decide) (Nat.le_of_ble_eq_true rfl) rfl dX6_strikers_5 (fun v2 M1 hs => ?_)
  refine wp_if_ne (tgt := 15) dX6_strikers_8 (by decide) (fun c3 => ?_) (fun c3 => ?_)
  · have hs := hs.1 c3
    refine wp_aload_n 0 dX6_strikers_15 rfl ?_
    refine wp_get (v := .ref 23) dX6_strikers_16 rfl (by decide) rfl in_X6_strikers_X6 5 (by decide) fl_X6_strikers_40 rfl rfl ?_
    refine wp_aload_n 0 dX6_strikers_19 rfl ?_
    refine wp_get (v := .ref 1) dX6_strikers_20 rfl (by decide) rfl in_X6_strikers_X6 0 (by decide) fl_X6_strikers_10 rfl rfl ?_
    refine wp_iload_n 1 dX6_strikers_23 rfl ?_
    refine wp_aload_n 0 dX6_strikers_24 rfl ?_
    refine wp_get (v := .ref 1) dX6_strikers_25 rfl (by decide) rfl in_X6_strikers_X6 0 (by decide) fl_X6_strikers_10 rfl rfl ?_
    refine wp_get (v := .int (M1 1 2)) dX6_strikers_28 (σ_isS (by decide)) (lt_isS (by decide)) rfl in_X6_strikers_X4 2 (by decide) fl_X6_strikers_86 rfl rfl ?_
    refine wp_aload_n 0 dX6_strikers_31 rfl ?_
    refine wp_get (v := .ref 1) dX6_strikers_32 rfl (by decide) rfl in_X6_strikers_X6 0 (by decide) fl_X6_strikers_10 rfl rfl ?_
    refine wp_get (v := .int (M1 1 3)) dX6_strikers_35 (σ_isS (by decide)) (lt_isS (by decide)) rfl in_X6_strikers_X4 3 (by decide) fl_X6_strikers_124 rfl rfl ?_
    refine wp_cVi (As := [.ref 1, .int a, .int (M1 1 2), .int (M1 1 3)]) (st := []) (mw_X2_upperStrikers (by decide) (by decide) hs) gX6_strikers_X2_upperStrikers rfl hy_X2_upperStrikers rfl (σ_isP (by decide)) (lt_isP (by decide)) rfl (by decide) (by decide) (Nat.le_of_ble_eq_true rfl) rfl dX6_strikers_38 (fun v5 M4 hs => ?_)
    exact wp_ireturn rfl rfl dX6_strikers_41 (hQ _ _ hs)
  · have hs := hs.2 c3
    refine wp_sipush (v := (-1001 : Int32)) dX6_strikers_11 (by decide) ?_
    exact wp_ireturn rfl rfl dX6_strikers_14 (hQ _ _ hs)
abbrev iX6_order : MI := (cX6_order, 4, some .int, RX6, yX6_order, wsX6_order)
theorem hy_X6_order : yX6_order.cls = RX6 ∧ yX6_order.cls ≠ "java/lang/invoke/MethodHandle" ∧ yX6_order.cls ≠ "java/lang/invoke/VarHandle" ∧ (parseMethodDescriptor yX6_order.desc).map (fun d => d.parameters.length) = some 1 := by decide +kernel
theorem in_X6_order_X4 : ∀ w ∈ u_ws RX4 TX4 7, w ∈ wsX6_order := by decide +kernel
theorem in_X6_order_X6 : ∀ w ∈ u_ws RX6 TX6 7, w ∈ wsX6_order := by decide +kernel
theorem fl_X6_order_10 : Cond.fieldLink RX6 10 (TX6 0).1 (TX6 0).2.1 (TX6 0).2.2.1 ∈ wsX6_order := by decide +kernel
theorem fl_X6_order_47 : Cond.fieldLink RX6 47 (TX6 6).1 (TX6 6).2.1 (TX6 6).2.2.1 ∈ wsX6_order := by decide +kernel
theorem fl_X6_order_86 : Cond.fieldLink RX6 86 (TX4 2).1 (TX4 2).2.1 (TX4 2).2.2.1 ∈ wsX6_order := by decide +kernel
def w_X6_order_44 : Nat → Int32 → Int32 → Int32 → (Nat → Nat → Int32) → (Int32 → Int32 → (Nat → Nat → Int32) → Prop) → Prop
  | 0, _, _, _, _, _ => False
  | n + 1, x1, x2, x3, M, K => ((x1 ≤ x3 → K x2 x3 M) ∧ (¬ x1 ≤ x3 → w_X1_firstStep x2 M (fun v11 M10 => ∀ y12 : Int32, y12 = (x2 ||| ((nI 1) <<< (v11 &&& 31))) → ∀ y13 : Int32, y13 = x3 + (nI 1) → w_X6_order_44 n x1 y12 y13 M10 K)))
set_option maxHeartbeats 4000000 in
set_option maxRecDepth 100000 in
theorem lp_X6_order_44 {E : EN} {x1 : Int32} {Qf : PST} {K : Int32 → Int32 → (Nat → Nat → Int32) → Prop} (hK : ∀ (z2 : Int32) (z3 : Int32) (M : Nat → Nat → Int32), K z2 z3 M → WP E iX6_order 7 0 0 false 68 [(0, .ref 0), (2, .int z2)] [] σC 46 M Qf) : ∀ (nn : Nat) (x2 : Int32) (x3 : Int32) (M : Nat → Nat → Int32), w_X6_order_44 nn x1 x2 x3 M K → WP E iX6_order 7 0 0 false 44 [(0, .ref 0), (1, .int x1), (2, .int x2), (3, .int x3)] [] σC 46 M Qf := by
  intro nn
  induction nn with
  | zero => intro x2 x3 M hs; exact hs.elim
  | succ n ih =>
    intro x2 x3 M hs
    unfold w_X6_order_44 at hs
    refine wp_iload_n 3 dX6_order_44 rfl ?_
    refine wp_iload_n 1 dX6_order_45 rfl ?_
    refine wp_icmp_ge (tgt := 68) dX6_order_46 (by decide) (fun c9 => ?_) (fun c9 => ?_)
    · have hs := hs.1 c9
      refine wp_sub (ls' := [(0, .ref 0), (2, .int x2)]) [0, 2] rfl ?_
      exact hK _ _ _ hs
    · have hs := hs.2 c9
      refine wp_iload_n 2 dX6_order_49 rfl ?_
      refine wp_iconst (v := (nI 1)) dX6_order_50 (by decide) ?_
      refine wp_aload_n 0 dX6_order_51 rfl ?_
      refine wp_get (v := .ref 31) dX6_order_52 rfl (by decide) rfl in_X6_order_X6 6 (by decide) fl_X6_order_47 rfl rfl ?_
      refine wp_iload_n 2 dX6_order_55 rfl ?_
      refine wp_cVi (As := [.int x2]) (st := [.int (nI 1), .int x2]) (mw_X1_firstStep  hs) gX6_order_X1_firstStep rfl hy_X1_firstStep rfl rfl (by decide) rfl (by decide) (by decide) (Nat.le_of_ble_eq_true rfl) rfl dX6_order_56 (fun v11 M10 hs => ?_)
      refine wp_ishl dX6_order_59 ?_
      refine wp_ior dX6_order_60 ?_
      refine wp_topi (fun y12 ey12 => ?_)
      have hs := hs y12 ey12
      refine wp_istore_n (ls' := [(0, .ref 0), (1, .int x1), (2, .int y12), (3, .int x3)]) [1, 2, 0, 3] dX6_order_61 rfl (by decide) ?_
      obtain ⟨y13, ey13⟩ : ∃ y : Int32, y = x3 + (nI 1) := ⟨_, rfl⟩
      have hs := hs y13 ey13
      refine wp_iinc (v := y13) (ls' := [(0, .ref 0), (1, .int x1), (2, .int y12), (3, .int y13)]) 3 [1, 2, 3, 0] dX6_order_62 rfl (by rw [ey13]; rfl) rfl (by decide) ?_
      refine wp_goto (tgt := 44) dX6_order_65 (by decide) ?_
      refine wp_sub (ls' := [(0, .ref 0), (1, .int x1), (2, .int y12), (3, .int y13)]) [0, 1, 2, 3] rfl ?_
      exact ih _ _ _ hs
def w_X6_order (a : Int32) (M : Nat → Nat → Int32) (Q : Int32 → (Nat → Nat → Int32) → Prop) : Prop := ((0 ≤ a → w_X6_hasOrder M (fun v3 M2 => ((¬ v3 = 0 → w_X4_openBends 1 M2 (fun v6 M5 => ((a < v6 → ∀ y8 : Int32, y8 = (M5 1 2) → w_X6_order_44 FU a y8 (nI 0) M5 (fun y14 y15 M16 => w_X1_firstStep y14 M16 (fun v18 M17 => Q v18 M17))) ∧ (¬ a < v6 → Q (-1005 : Int32) M5)))) ∧ (v3 = 0 → Q (-1004 : Int32) M2)))) ∧ (¬ 0 ≤ a → Q (-1002 : Int32) M))
set_option maxHeartbeats 4000000 in
set_option maxRecDepth 100000 in
theorem mw_X6_order {E : EN} {a : Int32} {M : Nat → Nat → Int32} {Q : Int32 → (Nat → Nat → Int32) → Prop} (hs : w_X6_order a M Q) : MW E iX6_order 7 0 0 false [.ref 0, .int a] σC 46 M (qI σC 46 Q) := by
  refine mw_intro (ls := [(0, .ref 0), (1, .int a)]) rfl (by decide +kernel) rfl rfl (Nat.le_of_ble_eq_true rfl) ?_
  have hQ : ∀ x M, Q x M → (qI σC 46 Q) (some (.int x)) σC 46 M := fun _ _ h => ⟨_, rfl, rfl, rfl, h⟩
  generalize (qI σC 46 Q) = Qf at hQ ⊢
  unfold w_X6_order at hs
  refine wp_iload_n 1 dX6_order_0 rfl ?_
  refine wp_if_ge (tgt := 8) dX6_order_1 (by decide) (fun c1 => ?_) (fun c1 => ?_)
  · have hs := hs.1 c1
    refine wp_aload_n 0 dX6_order_8 rfl ?_
    refine wp_cVi (As := []) (st := []) (mw_X6_hasOrder  hs) gX6_order_X6_hasOrder rfl hy_X6_hasOrder rfl rfl (by decide) rfl (by decide) (by decide) (Nat.le_of_ble_eq_true rfl) rfl dX6_order_9 (fun v3 M2 hs => ?_)
    refine wp_if_ne (tgt := 19) dX6_order_12 (by decide) (fun c4 => ?_) (fun c4 => ?_)
    · have hs := hs.1 c4
      refine wp_iload_n 1 dX6_order_19 rfl ?_
      refine wp_aload_n 0 dX6_order_20 rfl ?_
      refine wp_get (v := .ref 1) dX6_order_21 rfl (by decide) rfl in_X6_order_X6 0 (by decide) fl_X6_order_10 rfl rfl ?_
      refine wp_cVi (As := []) (st := [.int a]) (mw_X4_openBends (by decide) hs) gX6_order_X4_openBends rfl hy_X4_openBends rfl (σ_isS (by decide)) (lt_isS (by decide)) rfl (by decide) (by decide) (Nat.le_of_ble_eq_true rfl) rfl dX6_order_24 (fun v6 M5 hs => ?_)
      refine wp_icmp_lt (tgt := 34) dX6_order_27 (by decide) (fun c7 => ?_) (fun c7 => ?_)
      · have hs := hs.1 c7
        refine wp_aload_n 0 dX6_order_34 rfl ?_
        refine wp_get (v := .ref 1) dX6_order_35 rfl (by decide) rfl in_X6_order_X6 0 (by decide) fl_X6_order_10 rfl rfl ?_
        refine wp_get (v := .int (M5 1 2)) dX6_order_38 (σ_isS (by decide)) (lt_isS (by decide)) rfl in_X6_order_X4 2 (by decide) fl_X6_order_86 rfl rfl ?_
        refine wp_topi (fun y8 ey8 => ?_)
        have hs := hs y8 ey8
        refine wp_istore_n (ls' := [(0, .ref 0), (1, .int a), (2, .int y8)]) [1, 2, 0] dX6_order_41 rfl (by decide) ?_
        refine wp_iconst (v := (nI 0)) dX6_order_42 (by decide) ?_
        refine wp_istore_n (ls' := [(0, .ref 0), (1, .int a), (2, .int y8), (3, .int (nI 0))]) [1, 2, 3, 0] dX6_order_43 rfl (by decide) ?_
        refine wp_sub (ls' := [(0, .ref 0), (1, .int a), (2, .int y8), (3, .int (nI 0))]) [0, 1, 2, 3] rfl ?_
        refine lp_X6_order_44 (K := fun y14 y15 M16 => w_X1_firstStep y14 M16 (fun v18 M17 => Q v18 M17)) (fun y14 y15 M16 hs => ?_) FU _ _ _ hs
        refine wp_aload_n 0 dX6_order_68 rfl ?_
        refine wp_get (v := .ref 31) dX6_order_69 rfl (by decide) rfl in_X6_order_X6 6 (by decide) fl_X6_order_47 rfl rfl ?_
        refine wp_iload_n 1 dX6_order_72 rfl ?_
        refine wp_cVi (As := [.int y14]) (st := []) (mw_X1_firstStep  hs) gX6_order_X1_firstStep rfl hy_X1_firstStep rfl rfl (by decide) rfl (by decide) (by decide) (Nat.le_of_ble_eq_true rfl) rfl dX6_order_73 (fun v18 M17 hs => ?_)
        exact wp_ireturn rfl rfl dX6_order_76 (hQ _ _ hs)
      · have hs := hs.2 c7
        refine wp_sipush (v := (-1005 : Int32)) dX6_order_30 (by decide) ?_
        exact wp_ireturn rfl rfl dX6_order_33 (hQ _ _ hs)
    · have hs := hs.2 c4
      refine wp_sipush (v := (-1004 : Int32)) dX6_order_15 (by decide) ?_
      exact wp_ireturn rfl rfl dX6_order_18 (hQ _ _ hs)
  · have hs := hs.2 c1
    refine wp_sipush (v := (-1002 : Int32)) dX6_order_4 (by decide) ?_
    exact wp_ireturn rfl rfl dX6_order_7 (hQ _ _ hs)
abbrev iX6_orders : MI := (cX6_orders, 1, some .int, RX6, yX6_orders, wsX6_orders)
theorem hy_X6_orders : yX6_orders.cls = RX6 ∧ yX6_orders.cls ≠ "java/lang/invoke/MethodHandle" ∧ yX6_orders.cls ≠ "java/lang/invoke/VarHandle" ∧ (parseMethodDescriptor yX6_orders.desc).map (fun d => d.parameters.length) = some 0 := by decide +kernel
theorem in_X6_orders_X4 : ∀ w ∈ u_ws RX4 TX4 7, w ∈ wsX6_orders := by decide +kernel
theorem in_X6_orders_X6 : ∀ w ∈ u_ws RX6 TX6 7, w ∈ wsX6_orders := by decide +kernel
theorem fl_X6_orders_10 : Cond.fieldLink RX6 10 (TX6 0).1 (TX6 0).2.1 (TX6 0).2.2.1 ∈ wsX6_orders := by decide +kernel
theorem fl_X6_orders_47 : Cond.fieldLink RX6 47 (TX6 6).1 (TX6 6).2.1 (TX6 6).2.2.1 ∈ wsX6_orders := by decide +kernel
theorem fl_X6_orders_86 : Cond.fieldLink RX6 86 (TX4 2).1 (TX4 2).2.1 (TX4 2).2.2.1 ∈ wsX6_orders := by decide +kernel
def w_X6_orders (M : Nat → Nat → Int32) (Q : Int32 → (Nat → Nat → Int32) → Prop) : Prop := w_X1_prepare 1 M (fun M1 => w_X1_waysFrom (M1 1 2) M1 (fun v3 M2 => Q v3 M2))
set_option maxHeartbeats 4000000 in
set_option maxRecDepth 100000 in
theorem mw_X6_orders {E : EN} {M : Nat → Nat → Int32} {Q : Int32 → (Nat → Nat → Int32) → Prop} (hs : w_X6_orders M Q) : MW E iX6_orders 6 0 0 false [.ref 0] σC 46 M (qI σC 46 Q) := by
  refine mw_intro (ls := [(0, .ref 0)]) rfl (by decide +kernel) rfl rfl (Nat.le_of_ble_eq_true rfl) ?_
  have hQ : ∀ x M, Q x M → (qI σC 46 Q) (some (.int x)) σC 46 M := fun _ _ h => ⟨_, rfl, rfl, rfl, h⟩
  generalize (qI σC 46 Q) = Qf at hQ ⊢
  unfold w_X6_orders at hs
  refine wp_aload_n 0 dX6_orders_0 rfl ?_
  refine wp_get (v := .ref 31) dX6_orders_1 rfl (by decide) rfl in_X6_orders_X6 6 (by decide) fl_X6_orders_47 rfl rfl ?_
  refine wp_aload_n 0 dX6_orders_4 rfl ?_
  refine wp_get (v := .ref 1) dX6_orders_5 rfl (by decide) rfl in_X6_orders_X6 0 (by decide) fl_X6_orders_10 rfl rfl ?_
  refine wp_cVv (As := [.ref 1]) (st := []) (mw_X1_prepare (by decide) hs) gX6_orders_X1_prepare rfl hy_X1_prepare rfl rfl (by decide) rfl (by decide) (by decide) (Nat.le_of_ble_eq_true rfl) rfl dX6_orders_8 (fun  M1 hs => ?_)
  refine wp_aload_n 0 dX6_orders_11 rfl ?_
  refine wp_get (v := .ref 31) dX6_orders_12 rfl (by decide) rfl in_X6_orders_X6 6 (by decide) fl_X6_orders_47 rfl rfl ?_
  refine wp_aload_n 0 dX6_orders_15 rfl ?_
  refine wp_get (v := .ref 1) dX6_orders_16 rfl (by decide) rfl in_X6_orders_X6 0 (by decide) fl_X6_orders_10 rfl rfl ?_
  refine wp_get (v := .int (M1 1 2)) dX6_orders_19 (σ_isS (by decide)) (lt_isS (by decide)) rfl in_X6_orders_X4 2 (by decide) fl_X6_orders_86 rfl rfl ?_
  refine wp_cVi (As := [.int (M1 1 2)]) (st := []) (mw_X1_waysFrom  hs) gX6_orders_X1_waysFrom rfl hy_X1_waysFrom rfl rfl (by decide) rfl (by decide) (by decide) (Nat.le_of_ble_eq_true rfl) rfl dX6_orders_22 (fun v3 M2 hs => ?_)
  exact wp_ireturn rfl rfl dX6_orders_25 (hQ _ _ hs)
abbrev iX6_isOpen : MI := (cX6_isOpen, 2, some .boolean, RX6, yX6_isOpen, wsX6_isOpen)
theorem hy_X6_isOpen : yX6_isOpen.cls = RX6 ∧ yX6_isOpen.cls ≠ "java/lang/invoke/MethodHandle" ∧ yX6_isOpen.cls ≠ "java/lang/invoke/VarHandle" ∧ (parseMethodDescriptor yX6_isOpen.desc).map (fun d => d.parameters.length) = some 1 := by decide +kernel
theorem in_X6_isOpen_X6 : ∀ w ∈ u_ws RX6 TX6 7, w ∈ wsX6_isOpen := by decide +kernel
theorem fl_X6_isOpen_10 : Cond.fieldLink RX6 10 (TX6 0).1 (TX6 0).2.1 (TX6 0).2.2.1 ∈ wsX6_isOpen := by decide +kernel
def w_X6_isOpen (a : Int32) (M : Nat → Nat → Int32) (Q : Int32 → (Nat → Nat → Int32) → Prop) : Prop := w_X4_hasBend 1 a M (fun v2 M1 => ((v2 = 0 → Q (nI 0) M1) ∧ (¬ v2 = 0 → w_X4_isDone 1 a M1 (fun v5 M4 => ((¬ v5 = 0 → Q (nI 0) M4) ∧ (v5 = 0 → Q (nI 1) M4))))))
set_option maxHeartbeats 4000000 in
set_option maxRecDepth 100000 in
theorem mw_X6_isOpen {E : EN} {a : Int32} {M : Nat → Nat → Int32} {Q : Int32 → (Nat → Nat → Int32) → Prop} (hs : w_X6_isOpen a M Q) : MW E iX6_isOpen 2 0 0 false [.ref 0, .int a] σC 46 M (qI σC 46 Q) := by
  refine mw_intro (ls := [(0, .ref 0), (1, .int a)]) rfl (by decide +kernel) rfl rfl (Nat.le_of_ble_eq_true rfl) ?_
  have hQ : ∀ x M, Q x M → (qI σC 46 Q) (some (.int x)) σC 46 M := fun _ _ h => ⟨_, rfl, rfl, rfl, h⟩
  generalize (qI σC 46 Q) = Qf at hQ ⊢
  unfold w_X6_isOpen at hs
  refine wp_aload_n 0 dX6_isOpen_0 rfl ?_
  refine wp_get (v := .ref 1) dX6_isOpen_1 rfl (by decide) rfl in_X6_isOpen_X6 0 (by decide) fl_X6_isOpen_10 rfl rfl ?_
  refine wp_iload_n 1 dX6_isOpen_4 rfl ?_
  refine wp_cVi (As := [.int a]) (st := []) (mw_X4_hasBend (by decide) hs) gX6_isOpen_X4_hasBend rfl hy_X4_hasBend rfl (σ_isS (by decide)) (lt_isS (by decide)) rfl (by decide) (by decide) (Nat.le_of_ble_eq_true rfl) rfl dX6_isOpen_5 (fun v2 M1 hs => ?_)
  refine wp_if_eq (tgt := 26) dX6_isOpen_8 (by decide) (fun c3 => ?_) (fun c3 => ?_)
  · have hs := hs.1 c3
    refine wp_iconst (v := (nI 0)) dX6_isOpen_26 (by decide) ?_
    exact wp_ireturn rfl rfl dX6_isOpen_27 (hQ _ _ hs)
  · have hs := hs.2 c3
    refine wp_aload_n 0 dX6_isOpen_11 rfl ?_
    refine wp_get (v := .ref 1) dX6_isOpen_12 rfl (by decide) rfl in_X6_isOpen_X6 0 (by decide) fl_X6_isOpen_10 rfl rfl ?_
    refine wp_iload_n 1 dX6_isOpen_15 rfl ?_
    refine wp_cVi (As := [.int a]) (st := []) (mw_X4_isDone (by decide) hs) gX6_isOpen_X4_isDone rfl hy_X4_isDone rfl (σ_isS (by decide)) (lt_isS (by decide)) rfl (by decide) (by decide) (Nat.le_of_ble_eq_true rfl) rfl dX6_isOpen_16 (fun v5 M4 hs => ?_)
    refine wp_if_ne (tgt := 26) dX6_isOpen_19 (by decide) (fun c6 => ?_) (fun c6 => ?_)
    · have hs := hs.1 c6
      refine wp_iconst (v := (nI 0)) dX6_isOpen_26 (by decide) ?_
      exact wp_ireturn rfl rfl dX6_isOpen_27 (hQ _ _ hs)
    · have hs := hs.2 c6
      refine wp_iconst (v := (nI 1)) dX6_isOpen_22 (by decide) ?_
      refine wp_goto (tgt := 27) dX6_isOpen_23 (by decide) ?_
      exact wp_ireturn rfl rfl dX6_isOpen_27 (hQ _ _ hs)
abbrev iX6_mustWait : MI := (cX6_mustWait, 3, some .int, RX6, yX6_mustWait, wsX6_mustWait)
theorem hy_X6_mustWait : yX6_mustWait.cls = RX6 ∧ yX6_mustWait.cls ≠ "java/lang/invoke/MethodHandle" ∧ yX6_mustWait.cls ≠ "java/lang/invoke/VarHandle" ∧ (parseMethodDescriptor yX6_mustWait.desc).map (fun d => d.parameters.length) = some 2 := by decide +kernel
theorem in_X6_mustWait_X4 : ∀ w ∈ u_ws RX4 TX4 7, w ∈ wsX6_mustWait := by decide +kernel
theorem in_X6_mustWait_X6 : ∀ w ∈ u_ws RX6 TX6 7, w ∈ wsX6_mustWait := by decide +kernel
theorem fl_X6_mustWait_10 : Cond.fieldLink RX6 10 (TX6 0).1 (TX6 0).2.1 (TX6 0).2.2.1 ∈ wsX6_mustWait := by decide +kernel
theorem fl_X6_mustWait_47 : Cond.fieldLink RX6 47 (TX6 6).1 (TX6 6).2.1 (TX6 6).2.2.1 ∈ wsX6_mustWait := by decide +kernel
theorem fl_X6_mustWait_86 : Cond.fieldLink RX6 86 (TX4 2).1 (TX4 2).2.1 (TX4 2).2.2.1 ∈ wsX6_mustWait := by decide +kernel
def w_X6_mustWait (a : Int32) (b : Int32) (M : Nat → Nat → Int32) (Q : Int32 → (Nat → Nat → Int32) → Prop) : Prop := w_X6_isOpen a M (fun v2 M1 => ((v2 = 0 → Q (-1001 : Int32) M1) ∧ (¬ v2 = 0 → w_X6_isOpen b M1 (fun v5 M4 => ((¬ v5 = 0 → ((¬ a = b → w_X6_hasOrder M4 (fun v9 M8 => ((¬ v9 = 0 → w_X1_canPrecede (M8 1 2) a b M8 (fun v12 M11 => ((¬ v12 = 0 → w_X6_asNumber (nI 0) M11 (fun v15 M14 => Q v15 M14)) ∧ (v12 = 0 → w_X6_asNumber (nI 1) M11 (fun v17 M16 => Q v17 M16))))) ∧ (v9 = 0 → Q (-1004 : Int32) M8)))) ∧ (a = b → Q (-1002 : Int32) M4))) ∧ (v5 = 0 → Q (-1001 : Int32) M4))))))
set_option maxHeartbeats 4000000 in
set_option maxRecDepth 100000 in
theorem mw_X6_mustWait {E : EN} {a : Int32} {b : Int32} {M : Nat → Nat → Int32} {Q : Int32 → (Nat → Nat → Int32) → Prop} (hs : w_X6_mustWait a b M Q) : MW E iX6_mustWait 7 0 0 false [.ref 0, .int a, .int b] σC 46 M (qI σC 46 Q) := by
  refine mw_intro (ls := [(0, .ref 0), (1, .int a), (2, .int b)]) rfl (by decide +kernel) rfl rfl (Nat.le_of_ble_eq_true rfl) ?_
  have hQ : ∀ x M, Q x M → (qI σC 46 Q) (some (.int x)) σC 46 M := fun _ _ h => ⟨_, rfl, rfl, rfl, h⟩
  generalize (qI σC 46 Q) = Qf at hQ ⊢
  unfold w_X6_mustWait at hs
  refine wp_aload_n 0 dX6_mustWait_0 rfl ?_
  refine wp_iload_n 1 dX6_mustWait_1 rfl ?_
  refine wp_cVi (As := [.int a]) (st := []) (mw_X6_isOpen  hs) gX6_mustWait_X6_isOpen rfl hy_X6_isOpen rfl rfl (by decide) rfl (by decide) (by decide) (Nat.le_of_ble_eq_true rfl) rfl dX6_mustWait_2 (fun v2 M1 hs => ?_)
  refine wp_if_eq (tgt := 16) dX6_mustWait_5 (by decide) (fun c3 => ?_) (fun c3 => ?_)
  · have hs := hs.1 c3
    refine wp_sipush (v := (-1001 : Int32)) dX6_mustWait_16 (by decide) ?_
    exact wp_ireturn rfl rfl dX6_mustWait_19 (hQ _ _ hs)
  · have hs := hs.2 c3
    refine wp_aload_n 0 dX6_mustWait_8 rfl ?_
    refine wp_iload_n 2 dX6_mustWait_9 rfl ?_
    refine wp_cVi (As := [.int b]) (st := []) (mw_X6_isOpen  hs) gX6_mustWait_X6_isOpen rfl hy_X6_isOpen rfl rfl (by decide) rfl (by decide) (by decide) (Nat.le_of_ble_eq_true rfl) rfl dX6_mustWait_10 (fun v5 M4 hs => ?_)
    refine wp_if_ne (tgt := 20) dX6_mustWait_13 (by decide) (fun c6 => ?_) (fun c6 => ?_)
    · have hs := hs.1 c6
      refine wp_iload_n 1 dX6_mustWait_20 rfl ?_
      refine wp_iload_n 2 dX6_mustWait_21 rfl ?_
      refine wp_icmp_ne (tgt := 29) dX6_mustWait_22 (by decide) (fun c7 => ?_) (fun c7 => ?_)
      · have hs := hs.1 c7
        refine wp_aload_n 0 dX6_mustWait_29 rfl ?_
        refine wp_cVi (As := []) (st := []) (mw_X6_hasOrder  hs) gX6_mustWait_X6_hasOrder rfl hy_X6_hasOrder rfl rfl (by decide) rfl (by decide) (by decide) (Nat.le_of_ble_eq_true rfl) rfl dX6_mustWait_30 (fun v9 M8 hs => ?_)
        refine wp_if_ne (tgt := 40) dX6_mustWait_33 (by decide) (fun c10 => ?_) (fun c10 => ?_)
        · have hs := hs.1 c10
          refine wp_aload_n 0 dX6_mustWait_40 rfl ?_
          refine wp_get (v := .ref 31) dX6_mustWait_41 rfl (by decide) rfl in_X6_mustWait_X6 6 (by decide) fl_X6_mustWait_47 rfl rfl ?_
          refine wp_aload_n 0 dX6_mustWait_44 rfl ?_
          refine wp_get (v := .ref 1) dX6_mustWait_45 rfl (by decide) rfl in_X6_mustWait_X6 0 (by decide) fl_X6_mustWait_10 rfl rfl ?_
          refine wp_get (v := .int (M8 1 2)) dX6_mustWait_48 (σ_isS (by decide)) (lt_isS (by decide)) rfl in_X6_mustWait_X4 2 (by decide) fl_X6_mustWait_86 rfl rfl ?_
          refine wp_iload_n 1 dX6_mustWait_51 rfl ?_
          refine wp_iload_n 2 dX6_mustWait_52 rfl ?_
          refine wp_cVi (As := [.int (M8 1 2), .int a, .int b]) (st := []) (mw_X1_canPrecede  hs) gX6_mustWait_X1_canPrecede rfl hy_X1_canPrecede rfl rfl (by decide) rfl (by decide) (by decide) (Nat.le_of_ble_eq_true rfl) rfl dX6_mustWait_53 (fun v12 M11 hs => ?_)
          refine wp_if_ne (tgt := 63) dX6_mustWait_56 (by decide) (fun c13 => ?_) (fun c13 => ?_)
          · have hs := hs.1 c13
            refine wp_iconst (v := (nI 0)) dX6_mustWait_63 (by decide) ?_
            refine wp_cSi (As := [.int (nI 0)]) (st := []) (mw_X6_asNumber  hs) gX6_mustWait_X6_asNumber rfl hy_X6_asNumber rfl (by decide) (by decide) (Nat.le_of_ble_eq_true rfl) rfl dX6_mustWait_64 (fun v15 M14 hs => ?_)
            exact wp_ireturn rfl rfl dX6_mustWait_67 (hQ _ _ hs)
          · have hs := hs.2 c13
            refine wp_iconst (v := (nI 1)) dX6_mustWait_59 (by decide) ?_
            refine wp_goto (tgt := 64) dX6_mustWait_60 (by decide) ?_
            refine wp_cSi (As := [.int (nI 1)]) (st := []) (mw_X6_asNumber  hs) gX6_mustWait_X6_asNumber rfl hy_X6_asNumber rfl (by decide) (by decide) (Nat.le_of_ble_eq_true rfl) rfl dX6_mustWait_64 (fun v17 M16 hs => ?_)
            exact wp_ireturn rfl rfl dX6_mustWait_67 (hQ _ _ hs)
        · have hs := hs.2 c10
          refine wp_sipush (v := (-1004 : Int32)) dX6_mustWait_36 (by decide) ?_
          exact wp_ireturn rfl rfl dX6_mustWait_39 (hQ _ _ hs)
      · have hs := hs.2 c7
        refine wp_sipush (v := (-1002 : Int32)) dX6_mustWait_25 (by decide) ?_
        exact wp_ireturn rfl rfl dX6_mustWait_28 (hQ _ _ hs)
    · have hs := hs.2 c6
      refine wp_sipush (v := (-1001 : Int32)) dX6_mustWait_16 (by decide) ?_
      exact wp_ireturn rfl rfl dX6_mustWait_19 (hQ _ _ hs)
abbrev iX6_possibleNow : MI := (cX6_possibleNow, 3, some .int, RX6, yX6_possibleNow, wsX6_possibleNow)
theorem hy_X6_possibleNow : yX6_possibleNow.cls = RX6 ∧ yX6_possibleNow.cls ≠ "java/lang/invoke/MethodHandle" ∧ yX6_possibleNow.cls ≠ "java/lang/invoke/VarHandle" ∧ (parseMethodDescriptor yX6_possibleNow.desc).map (fun d => d.parameters.length) = some 0 := by decide +kernel
theorem in_X6_possibleNow_X4 : ∀ w ∈ u_ws RX4 TX4 7, w ∈ wsX6_possibleNow := by decide +kernel
theorem in_X6_possibleNow_X6 : ∀ w ∈ u_ws RX6 TX6 7, w ∈ wsX6_possibleNow := by decide +kernel
theorem fl_X6_possibleNow_10 : Cond.fieldLink RX6 10 (TX6 0).1 (TX6 0).2.1 (TX6 0).2.2.1 ∈ wsX6_possibleNow := by decide +kernel
theorem fl_X6_possibleNow_40 : Cond.fieldLink RX6 40 (TX6 5).1 (TX6 5).2.1 (TX6 5).2.2.1 ∈ wsX6_possibleNow := by decide +kernel
theorem fl_X6_possibleNow_66 : Cond.fieldLink RX6 66 (TX4 0).1 (TX4 0).2.1 (TX4 0).2.2.1 ∈ wsX6_possibleNow := by decide +kernel
theorem fl_X6_possibleNow_86 : Cond.fieldLink RX6 86 (TX4 2).1 (TX4 2).2.1 (TX4 2).2.2.1 ∈ wsX6_possibleNow := by decide +kernel
theorem fl_X6_possibleNow_124 : Cond.fieldLink RX6 124 (TX4 3).1 (TX4 3).2.1 (TX4 3).2.2.1 ∈ wsX6_possibleNow := by decide +kernel
def w_X6_possibleNow_4 : Nat → Int32 → Int32 → (Nat → Nat → Int32) → (Int32 → Int32 → (Nat → Nat → Int32) → Prop) → Prop
  | 0, _, _, _, _ => False
  | n + 1, x1, x2, M, K => (((M 1 0) ≤ x2 → K x1 x2 M) ∧ (¬ (M 1 0) ≤ x2 → w_X2_reason 23 1 x2 (M 1 2) (M 1 3) M (fun v3 M2 => ((¬ v3 = 0 → ∀ y5 : Int32, y5 = x2 + (nI 1) → w_X6_possibleNow_4 n x1 y5 M2 K) ∧ (v3 = 0 → ∀ y6 : Int32, y6 = (x1 ||| ((nI 1) <<< (x2 &&& 31))) → ∀ y7 : Int32, y7 = x2 + (nI 1) → w_X6_possibleNow_4 n y6 y7 M2 K)))))
set_option maxHeartbeats 4000000 in
set_option maxRecDepth 100000 in
theorem lp_X6_possibleNow_4 {E : EN} {Qf : PST} {K : Int32 → Int32 → (Nat → Nat → Int32) → Prop} (hK : ∀ (z1 : Int32) (z2 : Int32) (M : Nat → Nat → Int32), K z1 z2 M → WP E iX6_possibleNow 4 0 0 false 56 [(1, .int z1)] [] σC 46 M Qf) : ∀ (nn : Nat) (x1 : Int32) (x2 : Int32) (M : Nat → Nat → Int32), w_X6_possibleNow_4 nn x1 x2 M K → WP E iX6_possibleNow 4 0 0 false 4 [(0, .ref 0), (1, .int x1), (2, .int x2)] [] σC 46 M Qf := by
  intro nn
  induction nn with
  | zero => intro x1 x2 M hs; exact hs.elim
  | succ n ih =>
    intro x1 x2 M hs
    unfold w_X6_possibleNow_4 at hs
    refine wp_iload_n 2 dX6_possibleNow_4 rfl ?_
    refine wp_aload_n 0 dX6_possibleNow_5 rfl ?_
    refine wp_get (v := .ref 1) dX6_possibleNow_6 rfl (by decide) rfl in_X6_possibleNow_X6 0 (by decide) fl_X6_possibleNow_10 rfl rfl ?_
    refine wp_get (v := .int (M 1 0)) dX6_possibleNow_9 (σ_isS (by decide)) (lt_isS (by decide)) rfl in_X6_possibleNow_X4 0 (by decide) fl_X6_possibleNow_66 rfl rfl ?_
    refine wp_icmp_ge (tgt := 56) dX6_possibleNow_12 (by decide) (fun c1 => ?_) (fun c1 => ?_)
    · have hs := hs.1 c1
      refine wp_sub (ls' := [(1, .int x1)]) [1] rfl ?_
      exact hK _ _ _ hs
    · have hs := hs.2 c1
      refine wp_aload_n 0 dX6_possibleNow_15 rfl ?_
      refine wp_get (v := .ref 23) dX6_possibleNow_16 rfl (by decide) rfl in_X6_possibleNow_X6 5 (by decide) fl_X6_possibleNow_40 rfl rfl ?_
      refine wp_aload_n 0 dX6_possibleNow_19 rfl ?_
      refine wp_get (v := .ref 1) dX6_possibleNow_20 rfl (by decide) rfl in_X6_possibleNow_X6 0 (by decide) fl_X6_possibleNow_10 rfl rfl ?_
      refine wp_iload_n 2 dX6_possibleNow_23 rfl ?_
      refine wp_aload_n 0 dX6_possibleNow_24 rfl ?_
      refine wp_get (v := .ref 1) dX6_possibleNow_25 rfl (by decide) rfl in_X6_possibleNow_X6 0 (by decide) fl_X6_possibleNow_10 rfl rfl ?_
      refine wp_get (v := .int (M 1 2)) dX6_possibleNow_28 (σ_isS (by decide)) (lt_isS (by decide)) rfl in_X6_possibleNow_X4 2 (by decide) fl_X6_possibleNow_86 rfl rfl ?_
      refine wp_aload_n 0 dX6_possibleNow_31 rfl ?_
      refine wp_get (v := .ref 1) dX6_possibleNow_32 rfl (by decide) rfl in_X6_possibleNow_X6 0 (by decide) fl_X6_possibleNow_10 rfl rfl ?_
      refine wp_get (v := .int (M 1 3)) dX6_possibleNow_35 (σ_isS (by decide)) (lt_isS (by decide)) rfl in_X6_possibleNow_X4 3 (by decide) fl_X6_possibleNow_124 rfl rfl ?_
      refine wp_cVi (As := [.ref 1, .int x2, .int (M 1 2), .int (M 1 3)]) (st := []) (mw_X2_reason (by decide) (by decide) hs) gX6_possibleNow_X2_reason rfl hy_X2_reason rfl (σ_isP (by decide)) (lt_isP (by decide)) rfl (by decide) (by decide) (Nat.le_of_ble_eq_true rfl) rfl dX6_possibleNow_38 (fun v3 M2 hs => ?_)
      refine wp_if_ne (tgt := 50) dX6_possibleNow_41 (by decide) (fun c4 => ?_) (fun c4 => ?_)
      · have hs := hs.1 c4
        obtain ⟨y5, ey5⟩ : ∃ y : Int32, y = x2 + (nI 1) := ⟨_, rfl⟩
        have hs := hs y5 ey5
        refine wp_iinc (v := y5) (ls' := [(0, .ref 0), (1, .int x1), (2, .int y5)]) 2 [1, 2, 0] dX6_possibleNow_50 rfl (by rw [ey5]; rfl) rfl (by decide) ?_
        refine wp_goto (tgt := 4) dX6_possibleNow_53 (by decide) ?_
        refine wp_sub (ls' := [(0, .ref 0), (1, .int x1), (2, .int y5)]) [0, 1, 2] rfl ?_
        exact ih _ _ _ hs
      · have hs := hs.2 c4
        refine wp_iload_n 1 dX6_possibleNow_44 rfl ?_
        refine wp_iconst (v := (nI 1)) dX6_possibleNow_45 (by decide) ?_
        refine wp_iload_n 2 dX6_possibleNow_46 rfl ?_
        refine wp_ishl dX6_possibleNow_47 ?_
        refine wp_ior dX6_possibleNow_48 ?_
        refine wp_topi (fun y6 ey6 => ?_)
        have hs := hs y6 ey6
        refine wp_istore_n (ls' := [(0, .ref 0), (1, .int y6), (2, .int x2)]) [1, 0, 2] dX6_possibleNow_49 rfl (by decide) ?_
        obtain ⟨y7, ey7⟩ : ∃ y : Int32, y = x2 + (nI 1) := ⟨_, rfl⟩
        have hs := hs y7 ey7
        refine wp_iinc (v := y7) (ls' := [(0, .ref 0), (1, .int y6), (2, .int y7)]) 2 [1, 2, 0] dX6_possibleNow_50 rfl (by rw [ey7]; rfl) rfl (by decide) ?_
        refine wp_goto (tgt := 4) dX6_possibleNow_53 (by decide) ?_
        refine wp_sub (ls' := [(0, .ref 0), (1, .int y6), (2, .int y7)]) [0, 1, 2] rfl ?_
        exact ih _ _ _ hs
def w_X6_possibleNow (M : Nat → Nat → Int32) (Q : Int32 → (Nat → Nat → Int32) → Prop) : Prop := w_X6_possibleNow_4 FU (nI 0) (nI 0) M (fun y8 y9 M10 => Q y8 M10)
set_option maxHeartbeats 4000000 in
set_option maxRecDepth 100000 in
theorem mw_X6_possibleNow {E : EN} {M : Nat → Nat → Int32} {Q : Int32 → (Nat → Nat → Int32) → Prop} (hs : w_X6_possibleNow M Q) : MW E iX6_possibleNow 4 0 0 false [.ref 0] σC 46 M (qI σC 46 Q) := by
  refine mw_intro (ls := [(0, .ref 0)]) rfl (by decide +kernel) rfl rfl (Nat.le_of_ble_eq_true rfl) ?_
  have hQ : ∀ x M, Q x M → (qI σC 46 Q) (some (.int x)) σC 46 M := fun _ _ h => ⟨_, rfl, rfl, rfl, h⟩
  generalize (qI σC 46 Q) = Qf at hQ ⊢
  unfold w_X6_possibleNow at hs
  refine wp_iconst (v := (nI 0)) dX6_possibleNow_0 (by decide) ?_
  refine wp_istore_n (ls' := [(0, .ref 0), (1, .int (nI 0))]) [1, 0] dX6_possibleNow_1 rfl (by decide) ?_
  refine wp_iconst (v := (nI 0)) dX6_possibleNow_2 (by decide) ?_
  refine wp_istore_n (ls' := [(0, .ref 0), (1, .int (nI 0)), (2, .int (nI 0))]) [1, 2, 0] dX6_possibleNow_3 rfl (by decide) ?_
  refine wp_sub (ls' := [(0, .ref 0), (1, .int (nI 0)), (2, .int (nI 0))]) [0, 1, 2] rfl ?_
  refine lp_X6_possibleNow_4 (K := fun y8 y9 M10 => Q y8 M10) (fun y8 y9 M10 hs => ?_) FU _ _ _ hs
  refine wp_iload_n 0 dX6_possibleNow_56 rfl ?_
  exact wp_ireturn rfl rfl dX6_possibleNow_57 (hQ _ _ hs)
abbrev iX6_count : MI := (cX6_count, 2, some .int, RX6, yX6_count, wsX6_count)
theorem hy_X6_count : yX6_count.cls = RX6 ∧ yX6_count.cls ≠ "java/lang/invoke/MethodHandle" ∧ yX6_count.cls ≠ "java/lang/invoke/VarHandle" ∧ (parseMethodDescriptor yX6_count.desc).map (fun d => d.parameters.length) = some 1 := by decide +kernel
theorem in_X6_count_X0 : ∀ w ∈ u_ws RX0 TX0 2, w ∈ wsX6_count := by decide +kernel
theorem in_X6_count_X4 : ∀ w ∈ u_ws RX4 TX4 7, w ∈ wsX6_count := by decide +kernel
theorem in_X6_count_X5 : ∀ w ∈ u_ws RX5 TX5 2, w ∈ wsX6_count := by decide +kernel
theorem in_X6_count_X6 : ∀ w ∈ u_ws RX6 TX6 7, w ∈ wsX6_count := by decide +kernel
theorem fl_X6_count_10 : Cond.fieldLink RX6 10 (TX6 0).1 (TX6 0).2.1 (TX6 0).2.2.1 ∈ wsX6_count := by decide +kernel
theorem fl_X6_count_26 : Cond.fieldLink RX6 26 (TX6 3).1 (TX6 3).2.1 (TX6 3).2.2.1 ∈ wsX6_count := by decide +kernel
theorem fl_X6_count_33 : Cond.fieldLink RX6 33 (TX6 4).1 (TX6 4).2.1 (TX6 4).2.2.1 ∈ wsX6_count := by decide +kernel
theorem fl_X6_count_47 : Cond.fieldLink RX6 47 (TX6 6).1 (TX6 6).2.1 (TX6 6).2.2.1 ∈ wsX6_count := by decide +kernel
theorem fl_X6_count_66 : Cond.fieldLink RX6 66 (TX4 0).1 (TX4 0).2.1 (TX4 0).2.2.1 ∈ wsX6_count := by decide +kernel
theorem fl_X6_count_86 : Cond.fieldLink RX6 86 (TX4 2).1 (TX4 2).2.1 (TX4 2).2.2.1 ∈ wsX6_count := by decide +kernel
theorem fl_X6_count_124 : Cond.fieldLink RX6 124 (TX4 3).1 (TX4 3).2.1 (TX4 3).2.2.1 ∈ wsX6_count := by decide +kernel
theorem fl_X6_count_160 : Cond.fieldLink RX6 160 (TX5 0).1 (TX5 0).2.1 (TX5 0).2.2.1 ∈ wsX6_count := by decide +kernel
theorem fl_X6_count_167 : Cond.fieldLink RX6 167 (TX0 0).1 (TX0 0).2.1 (TX0 0).2.2.1 ∈ wsX6_count := by decide +kernel
theorem fl_X6_count_206 : Cond.fieldLink RX6 206 (TX4 4).1 (TX4 4).2.1 (TX4 4).2.2.1 ∈ wsX6_count := by decide +kernel
def w_X6_count (a : Int32) (M : Nat → Nat → Int32) (Q : Int32 → (Nat → Nat → Int32) → Prop) : Prop := ((a = nI 0 → Q (M 1 0) M) ∧ (¬ a = nI 0 → ((a = nI 1 → w_X4_doneBends 1 M (fun v4 M3 => Q v4 M3)) ∧ (¬ a = nI 1 → ((a = nI 2 → w_X6_asNumber (M 1 3) M (fun v7 M6 => Q v7 M6)) ∧ (¬ a = nI 2 → ((a = nI 3 → w_X6_hasOrder M (fun v10 M9 => w_X6_asNumber v10 M9 (fun v12 M11 => Q v12 M11))) ∧ (¬ a = nI 3 → ((a = nI 4 → w_X6_possibleNow M (fun v15 M14 => Q v15 M14)) ∧ (¬ a = nI 4 → ((a = nI 5 → w_X6_hasOrder M (fun v18 M17 => ((v18 = 0 → Q (-1005 : Int32) M17) ∧ (¬ v18 = 0 → w_X1_turnings (M17 1 2) (M17 1 3) M17 (fun v21 M20 => Q v21 M20))))) ∧ (¬ a = nI 5 → ((a = nI 6 → w_X4_wholeLength 1 M (fun v24 M23 => Q v24 M23)) ∧ (¬ a = nI 6 → ((a = nI 7 → Q (M 1 4) M) ∧ (¬ a = nI 7 → ((a = nI 8 → w_X4_settingAt 1 (a - (nI 8)) M (fun v28 M27 => Q v28 M27)) ∧ (¬ a = nI 8 → ((a = nI 9 → w_X4_settingAt 1 (a - (nI 8)) M (fun v31 M30 => Q v31 M30)) ∧ (¬ a = nI 9 → ((a = nI 10 → w_X4_settingAt 1 (a - (nI 8)) M (fun v34 M33 => Q v34 M33)) ∧ (¬ a = nI 10 → ((a = nI 11 → w_X4_settingAt 1 (a - (nI 8)) M (fun v37 M36 => Q v37 M36)) ∧ (¬ a = nI 11 → ((a = nI 12 → Q (M 7 0) M) ∧ (¬ a = nI 12 → ((a = nI 13 → Q (M 21 0) M) ∧ (¬ a = nI 13 → Q (-1002 : Int32) M))))))))))))))))))))))))))))
set_option maxHeartbeats 4000000 in
set_option maxRecDepth 100000 in
theorem mw_X6_count {E : EN} {a : Int32} {M : Nat → Nat → Int32} {Q : Int32 → (Nat → Nat → Int32) → Prop} (hs : w_X6_count a M Q) : MW E iX6_count 7 0 0 false [.ref 0, .int a] σC 46 M (qI σC 46 Q) := by
  refine mw_intro (ls := [(0, .ref 0), (1, .int a)]) rfl (by decide +kernel) rfl rfl (Nat.le_of_ble_eq_true rfl) ?_
  have hQ : ∀ x M, Q x M → (qI σC 46 Q) (some (.int x)) σC 46 M := fun _ _ h => ⟨_, rfl, rfl, rfl, h⟩
  generalize (qI σC 46 Q) = Qf at hQ ⊢
  unfold w_X6_count at hs
  refine wp_iload_n 1 dX6_count_0 rfl ?_
  by_cases c1 : a = nI 0
  · have hs := hs.1 c1
    refine wp_tableIn (off := 71) (tgt := 72) dX6_count_1 (by rw [c1]; decide) (by rw [c1]; decide) (by rw [c1]; decide +kernel) (by decide) ?_
    refine wp_aload_n 0 dX6_count_72 rfl ?_
    refine wp_get (v := .ref 1) dX6_count_73 rfl (by decide) rfl in_X6_count_X6 0 (by decide) fl_X6_count_10 rfl rfl ?_
    refine wp_get (v := .int (M 1 0)) dX6_count_76 (σ_isS (by decide)) (lt_isS (by decide)) rfl in_X6_count_X4 0 (by decide) fl_X6_count_66 rfl rfl ?_
    exact wp_ireturn rfl rfl dX6_count_79 (hQ _ _ hs)
  have hs := hs.2 c1
  by_cases c2 : a = nI 1
  · have hs := hs.1 c2
    refine wp_tableIn (off := 79) (tgt := 80) dX6_count_1 (by rw [c2]; decide) (by rw [c2]; decide) (by rw [c2]; decide +kernel) (by decide) ?_
    refine wp_aload_n 0 dX6_count_80 rfl ?_
    refine wp_get (v := .ref 1) dX6_count_81 rfl (by decide) rfl in_X6_count_X6 0 (by decide) fl_X6_count_10 rfl rfl ?_
    refine wp_cVi (As := []) (st := []) (mw_X4_doneBends (by decide) hs) gX6_count_X4_doneBends rfl hy_X4_doneBends rfl (σ_isS (by decide)) (lt_isS (by decide)) rfl (by decide) (by decide) (Nat.le_of_ble_eq_true rfl) rfl dX6_count_84 (fun v4 M3 hs => ?_)
    exact wp_ireturn rfl rfl dX6_count_87 (hQ _ _ hs)
  have hs := hs.2 c2
  by_cases c5 : a = nI 2
  · have hs := hs.1 c5
    refine wp_tableIn (off := 87) (tgt := 88) dX6_count_1 (by rw [c5]; decide) (by rw [c5]; decide) (by rw [c5]; decide +kernel) (by decide) ?_
    refine wp_aload_n 0 dX6_count_88 rfl ?_
    refine wp_get (v := .ref 1) dX6_count_89 rfl (by decide) rfl in_X6_count_X6 0 (by decide) fl_X6_count_10 rfl rfl ?_
    refine wp_get (v := .int (M 1 3)) dX6_count_92 (σ_isS (by decide)) (lt_isS (by decide)) rfl in_X6_count_X4 3 (by decide) fl_X6_count_124 rfl rfl ?_
    refine wp_cSi (As := [.int (M 1 3)]) (st := []) (mw_X6_asNumber  hs) gX6_count_X6_asNumber rfl hy_X6_asNumber rfl (by decide) (by decide) (Nat.le_of_ble_eq_true rfl) rfl dX6_count_95 (fun v7 M6 hs => ?_)
    exact wp_ireturn rfl rfl dX6_count_98 (hQ _ _ hs)
  have hs := hs.2 c5
  by_cases c8 : a = nI 3
  · have hs := hs.1 c8
    refine wp_tableIn (off := 98) (tgt := 99) dX6_count_1 (by rw [c8]; decide) (by rw [c8]; decide) (by rw [c8]; decide +kernel) (by decide) ?_
    refine wp_aload_n 0 dX6_count_99 rfl ?_
    refine wp_cVi (As := []) (st := []) (mw_X6_hasOrder  hs) gX6_count_X6_hasOrder rfl hy_X6_hasOrder rfl rfl (by decide) rfl (by decide) (by decide) (Nat.le_of_ble_eq_true rfl) rfl dX6_count_100 (fun v10 M9 hs => ?_)
    refine wp_cSi (As := [.int v10]) (st := []) (mw_X6_asNumber  hs) gX6_count_X6_asNumber rfl hy_X6_asNumber rfl (by decide) (by decide) (Nat.le_of_ble_eq_true rfl) rfl dX6_count_103 (fun v12 M11 hs => ?_)
    exact wp_ireturn rfl rfl dX6_count_106 (hQ _ _ hs)
  have hs := hs.2 c8
  by_cases c13 : a = nI 4
  · have hs := hs.1 c13
    refine wp_tableIn (off := 106) (tgt := 107) dX6_count_1 (by rw [c13]; decide) (by rw [c13]; decide) (by rw [c13]; decide +kernel) (by decide) ?_
    refine wp_aload_n 0 dX6_count_107 rfl ?_
    refine wp_cVi (As := []) (st := []) (mw_X6_possibleNow  hs) gX6_count_X6_possibleNow rfl hy_X6_possibleNow rfl rfl (by decide) rfl (by decide) (by decide) (Nat.le_of_ble_eq_true rfl) rfl dX6_count_108 (fun v15 M14 hs => ?_)
    exact wp_ireturn rfl rfl dX6_count_111 (hQ _ _ hs)
  have hs := hs.2 c13
  by_cases c16 : a = nI 5
  · have hs := hs.1 c16
    refine wp_tableIn (off := 111) (tgt := 112) dX6_count_1 (by rw [c16]; decide) (by rw [c16]; decide) (by rw [c16]; decide +kernel) (by decide) ?_
    refine wp_aload_n 0 dX6_count_112 rfl ?_
    refine wp_cVi (As := []) (st := []) (mw_X6_hasOrder  hs) gX6_count_X6_hasOrder rfl hy_X6_hasOrder rfl rfl (by decide) rfl (by decide) (by decide) (Nat.le_of_ble_eq_true rfl) rfl dX6_count_113 (fun v18 M17 hs => ?_)
    refine wp_if_eq (tgt := 143) dX6_count_116 (by decide) (fun c19 => ?_) (fun c19 => ?_)
    · have hs := hs.1 c19
      refine wp_sipush (v := (-1005 : Int32)) dX6_count_143 (by decide) ?_
      exact wp_ireturn rfl rfl dX6_count_146 (hQ _ _ hs)
    · have hs := hs.2 c19
      refine wp_aload_n 0 dX6_count_119 rfl ?_
      refine wp_get (v := .ref 31) dX6_count_120 rfl (by decide) rfl in_X6_count_X6 6 (by decide) fl_X6_count_47 rfl rfl ?_
      refine wp_aload_n 0 dX6_count_123 rfl ?_
      refine wp_get (v := .ref 1) dX6_count_124 rfl (by decide) rfl in_X6_count_X6 0 (by decide) fl_X6_count_10 rfl rfl ?_
      refine wp_get (v := .int (M17 1 2)) dX6_count_127 (σ_isS (by decide)) (lt_isS (by decide)) rfl in_X6_count_X4 2 (by decide) fl_X6_count_86 rfl rfl ?_
      refine wp_aload_n 0 dX6_count_130 rfl ?_
      refine wp_get (v := .ref 1) dX6_count_131 rfl (by decide) rfl in_X6_count_X6 0 (by decide) fl_X6_count_10 rfl rfl ?_
      refine wp_get (v := .int (M17 1 3)) dX6_count_134 (σ_isS (by decide)) (lt_isS (by decide)) rfl in_X6_count_X4 3 (by decide) fl_X6_count_124 rfl rfl ?_
      refine wp_cVi (As := [.int (M17 1 2), .int (M17 1 3)]) (st := []) (mw_X1_turnings  hs) gX6_count_X1_turnings rfl hy_X1_turnings rfl rfl (by decide) rfl (by decide) (by decide) (Nat.le_of_ble_eq_true rfl) rfl dX6_count_137 (fun v21 M20 hs => ?_)
      refine wp_goto (tgt := 146) dX6_count_140 (by decide) ?_
      exact wp_ireturn rfl rfl dX6_count_146 (hQ _ _ hs)
  have hs := hs.2 c16
  by_cases c22 : a = nI 6
  · have hs := hs.1 c22
    refine wp_tableIn (off := 146) (tgt := 147) dX6_count_1 (by rw [c22]; decide) (by rw [c22]; decide) (by rw [c22]; decide +kernel) (by decide) ?_
    refine wp_aload_n 0 dX6_count_147 rfl ?_
    refine wp_get (v := .ref 1) dX6_count_148 rfl (by decide) rfl in_X6_count_X6 0 (by decide) fl_X6_count_10 rfl rfl ?_
    refine wp_cVi (As := []) (st := []) (mw_X4_wholeLength (by decide) hs) gX6_count_X4_wholeLength rfl hy_X4_wholeLength rfl (σ_isS (by decide)) (lt_isS (by decide)) rfl (by decide) (by decide) (Nat.le_of_ble_eq_true rfl) rfl dX6_count_151 (fun v24 M23 hs => ?_)
    exact wp_ireturn rfl rfl dX6_count_154 (hQ _ _ hs)
  have hs := hs.2 c22
  by_cases c25 : a = nI 7
  · have hs := hs.1 c25
    refine wp_tableIn (off := 154) (tgt := 155) dX6_count_1 (by rw [c25]; decide) (by rw [c25]; decide) (by rw [c25]; decide +kernel) (by decide) ?_
    refine wp_aload_n 0 dX6_count_155 rfl ?_
    refine wp_get (v := .ref 1) dX6_count_156 rfl (by decide) rfl in_X6_count_X6 0 (by decide) fl_X6_count_10 rfl rfl ?_
    refine wp_get (v := .int (M 1 4)) dX6_count_159 (σ_isS (by decide)) (lt_isS (by decide)) rfl in_X6_count_X4 4 (by decide) fl_X6_count_206 rfl rfl ?_
    exact wp_ireturn rfl rfl dX6_count_162 (hQ _ _ hs)
  have hs := hs.2 c25
  by_cases c26 : a = nI 8
  · have hs := hs.1 c26
    refine wp_tableIn (off := 162) (tgt := 163) dX6_count_1 (by rw [c26]; decide) (by rw [c26]; decide) (by rw [c26]; decide +kernel) (by decide) ?_
    refine wp_aload_n 0 dX6_count_163 rfl ?_
    refine wp_get (v := .ref 1) dX6_count_164 rfl (by decide) rfl in_X6_count_X6 0 (by decide) fl_X6_count_10 rfl rfl ?_
    refine wp_iload_n 1 dX6_count_167 rfl ?_
    refine wp_bipush (v := (nI 8)) dX6_count_168 (by decide) ?_
    refine wp_isub dX6_count_170 ?_
    refine wp_cVi (As := [.int (a - (nI 8))]) (st := []) (mw_X4_settingAt (by decide) hs) gX6_count_X4_settingAt rfl hy_X4_settingAt rfl (σ_isS (by decide)) (lt_isS (by decide)) rfl (by decide) (by decide) (Nat.le_of_ble_eq_true rfl) rfl dX6_count_171 (fun v28 M27 hs => ?_)
    exact wp_ireturn rfl rfl dX6_count_174 (hQ _ _ hs)
  have hs := hs.2 c26
  by_cases c29 : a = nI 9
  · have hs := hs.1 c29
    refine wp_tableIn (off := 162) (tgt := 163) dX6_count_1 (by rw [c29]; decide) (by rw [c29]; decide) (by rw [c29]; decide +kernel) (by decide) ?_
    refine wp_aload_n 0 dX6_count_163 rfl ?_
    refine wp_get (v := .ref 1) dX6_count_164 rfl (by decide) rfl in_X6_count_X6 0 (by decide) fl_X6_count_10 rfl rfl ?_
    refine wp_iload_n 1 dX6_count_167 rfl ?_
    refine wp_bipush (v := (nI 8)) dX6_count_168 (by decide) ?_
    refine wp_isub dX6_count_170 ?_
    refine wp_cVi (As := [.int (a - (nI 8))]) (st := []) (mw_X4_settingAt (by decide) hs) gX6_count_X4_settingAt rfl hy_X4_settingAt rfl (σ_isS (by decide)) (lt_isS (by decide)) rfl (by decide) (by decide) (Nat.le_of_ble_eq_true rfl) rfl dX6_count_171 (fun v31 M30 hs => ?_)
    exact wp_ireturn rfl rfl dX6_count_174 (hQ _ _ hs)
  have hs := hs.2 c29
  by_cases c32 : a = nI 10
  · have hs := hs.1 c32
    refine wp_tableIn (off := 162) (tgt := 163) dX6_count_1 (by rw [c32]; decide) (by rw [c32]; decide) (by rw [c32]; decide +kernel) (by decide) ?_
    refine wp_aload_n 0 dX6_count_163 rfl ?_
    refine wp_get (v := .ref 1) dX6_count_164 rfl (by decide) rfl in_X6_count_X6 0 (by decide) fl_X6_count_10 rfl rfl ?_
    refine wp_iload_n 1 dX6_count_167 rfl ?_
    refine wp_bipush (v := (nI 8)) dX6_count_168 (by decide) ?_
    refine wp_isub dX6_count_170 ?_
    refine wp_cVi (As := [.int (a - (nI 8))]) (st := []) (mw_X4_settingAt (by decide) hs) gX6_count_X4_settingAt rfl hy_X4_settingAt rfl (σ_isS (by decide)) (lt_isS (by decide)) rfl (by decide) (by decide) (Nat.le_of_ble_eq_true rfl) rfl dX6_count_171 (fun v34 M33 hs => ?_)
    exact wp_ireturn rfl rfl dX6_count_174 (hQ _ _ hs)
  have hs := hs.2 c32
  by_cases c35 : a = nI 11
  · have hs := hs.1 c35
    refine wp_tableIn (off := 162) (tgt := 163) dX6_count_1 (by rw [c35]; decide) (by rw [c35]; decide) (by rw [c35]; decide +kernel) (by decide) ?_
    refine wp_aload_n 0 dX6_count_163 rfl ?_
    refine wp_get (v := .ref 1) dX6_count_164 rfl (by decide) rfl in_X6_count_X6 0 (by decide) fl_X6_count_10 rfl rfl ?_
    refine wp_iload_n 1 dX6_count_167 rfl ?_
    refine wp_bipush (v := (nI 8)) dX6_count_168 (by decide) ?_
    refine wp_isub dX6_count_170 ?_
    refine wp_cVi (As := [.int (a - (nI 8))]) (st := []) (mw_X4_settingAt (by decide) hs) gX6_count_X4_settingAt rfl hy_X4_settingAt rfl (σ_isS (by decide)) (lt_isS (by decide)) rfl (by decide) (by decide) (Nat.le_of_ble_eq_true rfl) rfl dX6_count_171 (fun v37 M36 hs => ?_)
    exact wp_ireturn rfl rfl dX6_count_174 (hQ _ _ hs)
  have hs := hs.2 c35
  by_cases c38 : a = nI 12
  · have hs := hs.1 c38
    refine wp_tableIn (off := 174) (tgt := 175) dX6_count_1 (by rw [c38]; decide) (by rw [c38]; decide) (by rw [c38]; decide +kernel) (by decide) ?_
    refine wp_aload_n 0 dX6_count_175 rfl ?_
    refine wp_get (v := .ref 7) dX6_count_176 rfl (by decide) rfl in_X6_count_X6 3 (by decide) fl_X6_count_26 rfl rfl ?_
    refine wp_get (v := .int (M 7 0)) dX6_count_179 rfl (by decide) rfl in_X6_count_X0 0 (by decide) fl_X6_count_167 rfl rfl ?_
    exact wp_ireturn rfl rfl dX6_count_182 (hQ _ _ hs)
  have hs := hs.2 c38
  by_cases c39 : a = nI 13
  · have hs := hs.1 c39
    refine wp_tableIn (off := 182) (tgt := 183) dX6_count_1 (by rw [c39]; decide) (by rw [c39]; decide) (by rw [c39]; decide +kernel) (by decide) ?_
    refine wp_aload_n 0 dX6_count_183 rfl ?_
    refine wp_get (v := .ref 21) dX6_count_184 rfl (by decide) rfl in_X6_count_X6 4 (by decide) fl_X6_count_33 rfl rfl ?_
    refine wp_get (v := .int (M 21 0)) dX6_count_187 rfl (by decide) rfl in_X6_count_X5 0 (by decide) fl_X6_count_160 rfl rfl ?_
    exact wp_ireturn rfl rfl dX6_count_190 (hQ _ _ hs)
  have hs := hs.2 c39
  have ac1 : ¬ (a).toInt = 0 := fun h => c1 (Int32.toInt_inj.mp (h.trans (by decide)))
  have ac2 : ¬ (a).toInt = 1 := fun h => c2 (Int32.toInt_inj.mp (h.trans (by decide)))
  have ac5 : ¬ (a).toInt = 2 := fun h => c5 (Int32.toInt_inj.mp (h.trans (by decide)))
  have ac8 : ¬ (a).toInt = 3 := fun h => c8 (Int32.toInt_inj.mp (h.trans (by decide)))
  have ac13 : ¬ (a).toInt = 4 := fun h => c13 (Int32.toInt_inj.mp (h.trans (by decide)))
  have ac16 : ¬ (a).toInt = 5 := fun h => c16 (Int32.toInt_inj.mp (h.trans (by decide)))
  have ac22 : ¬ (a).toInt = 6 := fun h => c22 (Int32.toInt_inj.mp (h.trans (by decide)))
  have ac25 : ¬ (a).toInt = 7 := fun h => c25 (Int32.toInt_inj.mp (h.trans (by decide)))
  have ac26 : ¬ (a).toInt = 8 := fun h => c26 (Int32.toInt_inj.mp (h.trans (by decide)))
  have ac29 : ¬ (a).toInt = 9 := fun h => c29 (Int32.toInt_inj.mp (h.trans (by decide)))
  have ac32 : ¬ (a).toInt = 10 := fun h => c32 (Int32.toInt_inj.mp (h.trans (by decide)))
  have ac35 : ¬ (a).toInt = 11 := fun h => c35 (Int32.toInt_inj.mp (h.trans (by decide)))
  have ac38 : ¬ (a).toInt = 12 := fun h => c38 (Int32.toInt_inj.mp (h.trans (by decide)))
  have ac39 : ¬ (a).toInt = 13 := fun h => c39 (Int32.toInt_inj.mp (h.trans (by decide)))
  refine wp_tableOut (tgt := 191) dX6_count_1 (by omega) (by decide) ?_
  refine wp_sipush (v := (-1002 : Int32)) dX6_count_191 (by decide) ?_
  exact wp_ireturn rfl rfl dX6_count_194 (hQ _ _ hs)
