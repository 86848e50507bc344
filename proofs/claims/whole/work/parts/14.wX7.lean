abbrev iX7_in : MI := (cX7_in, 3, some .boolean, RX7, yX7_in, wsX7_in)
theorem hy_X7_in : yX7_in.cls ≠ "java/lang/invoke/MethodHandle" ∧ yX7_in.cls ≠ "java/lang/invoke/VarHandle" ∧ (parseMethodDescriptor yX7_in.desc).map (fun d => d.parameters.length) = some 3 := by decide +kernel
def w_X7_in (a : Int32) (b : Int32) (c : Int32) (M : Nat → Nat → Int32) (Q : Int32 → (Nat → Nat → Int32) → Prop) : Prop := ((a < b → Q (nI 0) M) ∧ (¬ a < b → ((c < a → Q (nI 0) M) ∧ (¬ c < a → Q (nI 1) M))))
set_option maxHeartbeats 4000000 in
set_option maxRecDepth 100000 in
theorem mw_X7_in {E : EN} {a : Int32} {b : Int32} {c : Int32} {M : Nat → Nat → Int32} {Q : Int32 → (Nat → Nat → Int32) → Prop} (hs : w_X7_in a b c M Q) : MW E iX7_in 1 0 0 false [.int a, .int b, .int c] σM 10 M (qI σM 10 Q) := by
  refine mw_intro (ls := [(0, .int a), (1, .int b), (2, .int c)]) rfl (by decide +kernel) rfl rfl (Nat.le_of_ble_eq_true rfl) ?_
  have hQ : ∀ x M, Q x M → (qI σM 10 Q) (some (.int x)) σM 10 M := fun _ _ h => ⟨_, rfl, rfl, rfl, h⟩
  generalize (qI σM 10 Q) = Qf at hQ ⊢
  unfold w_X7_in at hs
  refine wp_iload_n 0 dX7_in_0 rfl ?_
  refine wp_iload_n 1 dX7_in_1 rfl ?_
  refine wp_icmp_lt (tgt := 14) dX7_in_2 (by decide) (fun c1 => ?_) (fun c1 => ?_)
  · have hs := hs.1 c1
    refine wp_iconst (v := (nI 0)) dX7_in_14 (by decide) ?_
    exact wp_ireturn rfl rfl dX7_in_15 (hQ _ _ hs)
  · have hs := hs.2 c1
    refine wp_iload_n 0 dX7_in_5 rfl ?_
    refine wp_iload_n 2 dX7_in_6 rfl ?_
    refine wp_icmp_gt (tgt := 14) dX7_in_7 (by decide) (fun c2 => ?_) (fun c2 => ?_)
    · have hs := hs.1 c2
      refine wp_iconst (v := (nI 0)) dX7_in_14 (by decide) ?_
      exact wp_ireturn rfl rfl dX7_in_15 (hQ _ _ hs)
    · have hs := hs.2 c2
      refine wp_iconst (v := (nI 1)) dX7_in_10 (by decide) ?_
      refine wp_goto (tgt := 15) dX7_in_11 (by decide) ?_
      exact wp_ireturn rfl rfl dX7_in_15 (hQ _ _ hs)
abbrev iX7_isBend : MI := (cX7_isBend, 2, some .boolean, RX7, yX7_isBend, wsX7_isBend)
theorem hy_X7_isBend : yX7_isBend.cls = RX7 ∧ yX7_isBend.cls ≠ "java/lang/invoke/MethodHandle" ∧ yX7_isBend.cls ≠ "java/lang/invoke/VarHandle" ∧ (parseMethodDescriptor yX7_isBend.desc).map (fun d => d.parameters.length) = some 1 := by decide +kernel
theorem in_X7_isBend_X7 : ∀ w ∈ u_ws RX7 TX7 13, w ∈ wsX7_isBend := by decide +kernel
theorem fl_X7_isBend_7 : Cond.fieldLink RX7 7 (TX7 0).1 (TX7 0).2.1 (TX7 0).2.2.1 ∈ wsX7_isBend := by decide +kernel
def w_X7_isBend (a : Int32) (M : Nat → Nat → Int32) (Q : Int32 → (Nat → Nat → Int32) → Prop) : Prop := w_X7_in a (nI 0) ((M 1 0) - (nI 1)) M (fun v2 M1 => (zb v2 ∧ Q v2 M1))
set_option maxHeartbeats 4000000 in
set_option maxRecDepth 100000 in
theorem mw_X7_isBend {E : EN} {a : Int32} {M : Nat → Nat → Int32} {Q : Int32 → (Nat → Nat → Int32) → Prop} (hs : w_X7_isBend a M Q) : MW E iX7_isBend 2 0 0 false [.ref 0, .int a] σM 10 M (qI σM 10 Q) := by
  refine mw_intro (ls := [(0, .ref 0), (1, .int a)]) rfl (by decide +kernel) rfl rfl (Nat.le_of_ble_eq_true rfl) ?_
  have hQ : ∀ x M, Q x M → (qI σM 10 Q) (some (.int x)) σM 10 M := fun _ _ h => ⟨_, rfl, rfl, rfl, h⟩
  generalize (qI σM 10 Q) = Qf at hQ ⊢
  unfold w_X7_isBend at hs
  refine wp_iload_n 1 dX7_isBend_0 rfl ?_
  refine wp_iconst (v := (nI 0)) dX7_isBend_1 (by decide) ?_
  refine wp_aload_n 0 dX7_isBend_2 rfl ?_
  refine wp_get (v := .ref 1) dX7_isBend_3 rfl (by decide) rfl in_X7_isBend_X7 0 (by decide) fl_X7_isBend_7 rfl rfl ?_
  refine wp_iconst (v := (nI 0)) dX7_isBend_6 (by decide) ?_
  refine wp_iald rfl (by decide) (vil rfl) dX7_isBend_7 ?_
  refine wp_iconst (v := (nI 1)) dX7_isBend_8 (by decide) ?_
  refine wp_isub dX7_isBend_9 ?_
  refine wp_cSi (As := [.int a, .int (nI 0), .int ((M 1 0) - (nI 1))]) (st := []) (mw_X7_in  hs) gX7_isBend_X7_in rfl hy_X7_in rfl (by decide) (by decide) (Nat.le_of_ble_eq_true rfl) rfl dX7_isBend_10 (fun v2 M1 hs => ?_)
  have hz := hs.1
  have hs := hs.2
  exact wp_ireturn rfl hz.1 dX7_isBend_13 (hQ _ _ hs)
abbrev iX7_isFlange : MI := (cX7_isFlange, 2, some .boolean, RX7, yX7_isFlange, wsX7_isFlange)
theorem hy_X7_isFlange : yX7_isFlange.cls = RX7 ∧ yX7_isFlange.cls ≠ "java/lang/invoke/MethodHandle" ∧ yX7_isFlange.cls ≠ "java/lang/invoke/VarHandle" ∧ (parseMethodDescriptor yX7_isFlange.desc).map (fun d => d.parameters.length) = some 1 := by decide +kernel
theorem in_X7_isFlange_X7 : ∀ w ∈ u_ws RX7 TX7 13, w ∈ wsX7_isFlange := by decide +kernel
theorem fl_X7_isFlange_7 : Cond.fieldLink RX7 7 (TX7 0).1 (TX7 0).2.1 (TX7 0).2.2.1 ∈ wsX7_isFlange := by decide +kernel
def w_X7_isFlange (a : Int32) (M : Nat → Nat → Int32) (Q : Int32 → (Nat → Nat → Int32) → Prop) : Prop := w_X7_in a (nI 0) (M 1 0) M (fun v2 M1 => (zb v2 ∧ Q v2 M1))
set_option maxHeartbeats 4000000 in
set_option maxRecDepth 100000 in
theorem mw_X7_isFlange {E : EN} {a : Int32} {M : Nat → Nat → Int32} {Q : Int32 → (Nat → Nat → Int32) → Prop} (hs : w_X7_isFlange a M Q) : MW E iX7_isFlange 2 0 0 false [.ref 0, .int a] σM 10 M (qI σM 10 Q) := by
  refine mw_intro (ls := [(0, .ref 0), (1, .int a)]) rfl (by decide +kernel) rfl rfl (Nat.le_of_ble_eq_true rfl) ?_
  have hQ : ∀ x M, Q x M → (qI σM 10 Q) (some (.int x)) σM 10 M := fun _ _ h => ⟨_, rfl, rfl, rfl, h⟩
  generalize (qI σM 10 Q) = Qf at hQ ⊢
  unfold w_X7_isFlange at hs
  refine wp_iload_n 1 dX7_isFlange_0 rfl ?_
  refine wp_iconst (v := (nI 0)) dX7_isFlange_1 (by decide) ?_
  refine wp_aload_n 0 dX7_isFlange_2 rfl ?_
  refine wp_get (v := .ref 1) dX7_isFlange_3 rfl (by decide) rfl in_X7_isFlange_X7 0 (by decide) fl_X7_isFlange_7 rfl rfl ?_
  refine wp_iconst (v := (nI 0)) dX7_isFlange_6 (by decide) ?_
  refine wp_iald rfl (by decide) (vil rfl) dX7_isFlange_7 ?_
  refine wp_cSi (As := [.int a, .int (nI 0), .int (M 1 0)]) (st := []) (mw_X7_in  hs) gX7_isFlange_X7_in rfl hy_X7_in rfl (by decide) (by decide) (Nat.le_of_ble_eq_true rfl) rfl dX7_isFlange_8 (fun v2 M1 hs => ?_)
  have hz := hs.1
  have hs := hs.2
  exact wp_ireturn rfl hz.1 dX7_isFlange_11 (hQ _ _ hs)
abbrev iX7_has : MI := (cX7_has, 2, some .boolean, RX7, yX7_has, wsX7_has)
theorem hy_X7_has : yX7_has.cls ≠ "java/lang/invoke/MethodHandle" ∧ yX7_has.cls ≠ "java/lang/invoke/VarHandle" ∧ (parseMethodDescriptor yX7_has.desc).map (fun d => d.parameters.length) = some 2 := by decide +kernel
def w_X7_has (a : Int32) (b : Int32) (M : Nat → Nat → Int32) (Q : Int32 → (Nat → Nat → Int32) → Prop) : Prop := ((¬ ((a >>> (b &&& 31)) &&& (nI 1)) = (nI 1) → Q (nI 0) M) ∧ (((a >>> (b &&& 31)) &&& (nI 1)) = (nI 1) → Q (nI 1) M))
set_option maxHeartbeats 4000000 in
set_option maxRecDepth 100000 in
theorem mw_X7_has {E : EN} {a : Int32} {b : Int32} {M : Nat → Nat → Int32} {Q : Int32 → (Nat → Nat → Int32) → Prop} (hs : w_X7_has a b M Q) : MW E iX7_has 1 0 0 false [.int a, .int b] σM 10 M (qI σM 10 Q) := by
  refine mw_intro (ls := [(0, .int a), (1, .int b)]) rfl (by decide +kernel) rfl rfl (Nat.le_of_ble_eq_true rfl) ?_
  have hQ : ∀ x M, Q x M → (qI σM 10 Q) (some (.int x)) σM 10 M := fun _ _ h => ⟨_, rfl, rfl, rfl, h⟩
  generalize (qI σM 10 Q) = Qf at hQ ⊢
  unfold w_X7_has at hs
  refine wp_iload_n 0 dX7_has_0 rfl ?_
  refine wp_iload_n 1 dX7_has_1 rfl ?_
  refine wp_ishr dX7_has_2 ?_
  refine wp_iconst (v := (nI 1)) dX7_has_3 (by decide) ?_
  refine wp_iand dX7_has_4 ?_
  refine wp_iconst (v := (nI 1)) dX7_has_5 (by decide) ?_
  refine wp_icmp_ne (tgt := 13) dX7_has_6 (by decide) (fun c1 => ?_) (fun c1 => ?_)
  · have hs := hs.1 c1
    refine wp_iconst (v := (nI 0)) dX7_has_13 (by decide) ?_
    exact wp_ireturn rfl rfl dX7_has_14 (hQ _ _ hs)
  · have hs := hs.2 c1
    refine wp_iconst (v := (nI 1)) dX7_has_9 (by decide) ?_
    refine wp_goto (tgt := 14) dX7_has_10 (by decide) ?_
    exact wp_ireturn rfl rfl dX7_has_14 (hQ _ _ hs)
abbrev iX7_many : MI := (cX7_many, 3, some .int, RX7, yX7_many, wsX7_many)
theorem hy_X7_many : yX7_many.cls ≠ "java/lang/invoke/MethodHandle" ∧ yX7_many.cls ≠ "java/lang/invoke/VarHandle" ∧ (parseMethodDescriptor yX7_many.desc).map (fun d => d.parameters.length) = some 1 := by decide +kernel
def w_X7_many_4 : Nat → Int32 → Int32 → Int32 → (Nat → Nat → Int32) → (Int32 → Int32 → (Nat → Nat → Int32) → Prop) → Prop
  | 0, _, _, _, _, _ => False
  | n + 1, x0, x1, x2, M, K => (((nI 7) ≤ x2 → K x1 x2 M) ∧ (¬ (nI 7) ≤ x2 → ∀ y2 : Int32, y2 = (x1 + ((x0 >>> (x2 &&& 31)) &&& (nI 1))) → ∀ y3 : Int32, y3 = x2 + (nI 1) → w_X7_many_4 n x0 y2 y3 M K))
set_option maxHeartbeats 4000000 in
set_option maxRecDepth 100000 in
theorem lp_X7_many_4 {E : EN} {x0 : Int32} {Qf : PST} {K : Int32 → Int32 → (Nat → Nat → Int32) → Prop} (hK : ∀ (z1 : Int32) (z2 : Int32) (M : Nat → Nat → Int32), K z1 z2 M → WP E iX7_many 1 0 0 false 24 [(1, .int z1)] [] σM 10 M Qf) : ∀ (nn : Nat) (x1 : Int32) (x2 : Int32) (M : Nat → Nat → Int32), w_X7_many_4 nn x0 x1 x2 M K → WP E iX7_many 1 0 0 false 4 [(0, .int x0), (1, .int x1), (2, .int x2)] [] σM 10 M Qf := by
  intro nn
  induction nn with
  | zero => intro x1 x2 M hs; exact hs.elim
  | succ n ih =>
    intro x1 x2 M hs
    unfold w_X7_many_4 at hs
    refine wp_iload_n 2 dX7_many_4 rfl ?_
    refine wp_bipush (v := (nI 7)) dX7_many_5 (by decide) ?_
    refine wp_icmp_ge (tgt := 24) dX7_many_7 (by decide) (fun c1 => ?_) (fun c1 => ?_)
    · have hs := hs.1 c1
      refine wp_sub (ls' := [(1, .int x1)]) [1] rfl ?_
      exact hK _ _ _ hs
    · have hs := hs.2 c1
      refine wp_iload_n 1 dX7_many_10 rfl ?_
      refine wp_iload_n 0 dX7_many_11 rfl ?_
      refine wp_iload_n 2 dX7_many_12 rfl ?_
      refine wp_ishr dX7_many_13 ?_
      refine wp_iconst (v := (nI 1)) dX7_many_14 (by decide) ?_
      refine wp_iand dX7_many_15 ?_
      refine wp_iadd dX7_many_16 ?_
      refine wp_topi (fun y2 ey2 => ?_)
      have hs := hs y2 ey2
      refine wp_istore_n (ls' := [(0, .int x0), (1, .int y2), (2, .int x2)]) [1, 0, 2] dX7_many_17 rfl (by decide) ?_
      obtain ⟨y3, ey3⟩ : ∃ y : Int32, y = x2 + (nI 1) := ⟨_, rfl⟩
      have hs := hs y3 ey3
      refine wp_iinc (v := y3) (ls' := [(0, .int x0), (1, .int y2), (2, .int y3)]) 2 [1, 2, 0] dX7_many_18 rfl (by rw [ey3]; rfl) rfl (by decide) ?_
      refine wp_goto (tgt := 4) dX7_many_21 (by decide) ?_
      refine wp_sub (ls' := [(0, .int x0), (1, .int y2), (2, .int y3)]) [0, 1, 2] rfl ?_
      exact ih _ _ _ hs
def w_X7_many (a : Int32) (M : Nat → Nat → Int32) (Q : Int32 → (Nat → Nat → Int32) → Prop) : Prop := w_X7_many_4 FU a (nI 0) (nI 0) M (fun y4 y5 M6 => Q y4 M6)
set_option maxHeartbeats 4000000 in
set_option maxRecDepth 100000 in
theorem mw_X7_many {E : EN} {a : Int32} {M : Nat → Nat → Int32} {Q : Int32 → (Nat → Nat → Int32) → Prop} (hs : w_X7_many a M Q) : MW E iX7_many 1 0 0 false [.int a] σM 10 M (qI σM 10 Q) := by
  refine mw_intro (ls := [(0, .int a)]) rfl (by decide +kernel) rfl rfl (Nat.le_of_ble_eq_true rfl) ?_
  have hQ : ∀ x M, Q x M → (qI σM 10 Q) (some (.int x)) σM 10 M := fun _ _ h => ⟨_, rfl, rfl, rfl, h⟩
  generalize (qI σM 10 Q) = Qf at hQ ⊢
  unfold w_X7_many at hs
  refine wp_iconst (v := (nI 0)) dX7_many_0 (by decide) ?_
  refine wp_istore_n (ls' := [(0, .int a), (1, .int (nI 0))]) [1, 0] dX7_many_1 rfl (by decide) ?_
  refine wp_iconst (v := (nI 0)) dX7_many_2 (by decide) ?_
  refine wp_istore_n (ls' := [(0, .int a), (1, .int (nI 0)), (2, .int (nI 0))]) [1, 2, 0] dX7_many_3 rfl (by decide) ?_
  refine wp_sub (ls' := [(0, .int a), (1, .int (nI 0)), (2, .int (nI 0))]) [0, 1, 2] rfl ?_
  refine lp_X7_many_4 (K := fun y4 y5 M6 => Q y4 M6) (fun y4 y5 M6 hs => ?_) FU _ _ _ hs
  refine wp_iload_n 0 dX7_many_24 rfl ?_
  exact wp_ireturn rfl rfl dX7_many_25 (hQ _ _ hs)
abbrev iX7_know : MI := (cX7_know, 2, none, RX7, yX7_know, wsX7_know)
theorem hy_X7_know : yX7_know.cls = RX7 ∧ yX7_know.cls ≠ "java/lang/invoke/MethodHandle" ∧ yX7_know.cls ≠ "java/lang/invoke/VarHandle" ∧ (parseMethodDescriptor yX7_know.desc).map (fun d => d.parameters.length) = some 0 := by decide +kernel
theorem in_X7_know_X7 : ∀ w ∈ u_ws RX7 TX7 13, w ∈ wsX7_know := by decide +kernel
theorem fl_X7_know_7 : Cond.fieldLink RX7 7 (TX7 0).1 (TX7 0).2.1 (TX7 0).2.2.1 ∈ wsX7_know := by decide +kernel
theorem fl_X7_know_13 : Cond.fieldLink RX7 13 (TX7 1).1 (TX7 1).2.1 (TX7 1).2.2.1 ∈ wsX7_know := by decide +kernel
theorem fl_X7_know_41 : Cond.fieldLink RX7 41 (TX7 2).1 (TX7 2).2.1 (TX7 2).2.2.1 ∈ wsX7_know := by decide +kernel
def w_X7_know_49 : Nat → Int32 → (Nat → Nat → Int32) → (Int32 → (Nat → Nat → Int32) → Prop) → Prop
  | 0, _, _, _ => False
  | n + 1, x1, M, K => (((nI 23) ≤ x1 → K x1 M) ∧ (¬ (nI 23) ≤ x1 → (vp_in x1 23 ∧ (vp_in (((nI 23) * (M 0 2)) + x1) 92 ∧ ∀ M3 : Nat → Nat → Int32, M3 = um M 2 (upd (M 2) (((nI 23) * (M 0 2)) + x1).toNatClampNeg (M 1 x1.toNatClampNeg)) → ∀ y4 : Int32, y4 = x1 + (nI 1) → w_X7_know_49 n y4 M3 K))))
set_option maxHeartbeats 4000000 in
set_option maxRecDepth 100000 in
theorem lp_X7_know_49 {E : EN} {Qf : PST} {K : Int32 → (Nat → Nat → Int32) → Prop} (hK : ∀ (z1 : Int32) (M : Nat → Nat → Int32), K z1 M → WP E iX7_know 1 0 0 false 81 [(0, .ref 0)] [] σM 10 M Qf) : ∀ (nn : Nat) (x1 : Int32) (M : Nat → Nat → Int32), w_X7_know_49 nn x1 M K → WP E iX7_know 1 0 0 false 49 [(0, .ref 0), (1, .int x1)] [] σM 10 M Qf := by
  intro nn
  induction nn with
  | zero => intro x1 M hs; exact hs.elim
  | succ n ih =>
    intro x1 M hs
    unfold w_X7_know_49 at hs
    refine wp_iload_n 1 dX7_know_49 rfl ?_
    refine wp_bipush (v := (nI 23)) dX7_know_50 (by decide) ?_
    refine wp_icmp_ge (tgt := 81) dX7_know_52 (by decide) (fun c2 => ?_) (fun c2 => ?_)
    · have hs := hs.1 c2
      refine wp_sub (ls' := [(0, .ref 0)]) [0] rfl ?_
      exact hK _ _ hs
    · have hs := hs.2 c2
      refine wp_aload_n 0 dX7_know_55 rfl ?_
      refine wp_get (v := .ref 2) dX7_know_56 rfl (by decide) rfl in_X7_know_X7 1 (by decide) fl_X7_know_13 rfl rfl ?_
      refine wp_bipush (v := (nI 23)) dX7_know_59 (by decide) ?_
      refine wp_aload_n 0 dX7_know_61 rfl ?_
      refine wp_get (v := .int (M 0 2)) dX7_know_62 rfl (by decide) rfl in_X7_know_X7 2 (by decide) fl_X7_know_41 rfl rfl ?_
      refine wp_imul dX7_know_65 ?_
      refine wp_iload_n 1 dX7_know_66 rfl ?_
      refine wp_iadd dX7_know_67 ?_
      refine wp_aload_n 0 dX7_know_68 rfl ?_
      refine wp_get (v := .ref 1) dX7_know_69 rfl (by decide) rfl in_X7_know_X7 0 (by decide) fl_X7_know_7 rfl rfl ?_
      refine wp_iload_n 1 dX7_know_72 rfl ?_
      have hv := hs.1
      have hs := hs.2
      refine wp_iald rfl (by decide) hv dX7_know_73 ?_
      have hv := hs.1
      have hs := hs.2
      refine wp_iast rfl (by decide) hv dX7_know_74 (fun M3 eM3 => ?_)
      have hs := hs M3 eM3
      obtain ⟨y4, ey4⟩ : ∃ y : Int32, y = x1 + (nI 1) := ⟨_, rfl⟩
      have hs := hs y4 ey4
      refine wp_iinc (v := y4) (ls' := [(0, .ref 0), (1, .int y4)]) 1 [1, 0] dX7_know_75 rfl (by rw [ey4]; rfl) rfl (by decide) ?_
      refine wp_goto (tgt := 49) dX7_know_78 (by decide) ?_
      refine wp_sub (ls' := [(0, .ref 0), (1, .int y4)]) [0, 1] rfl ?_
      exact ih _ _ hs
def w_X7_know_10 : Nat → Int32 → (Nat → Nat → Int32) → (Int32 → (Nat → Nat → Int32) → Prop) → Prop
  | 0, _, _, _ => False
  | n + 1, x1, M, K => (((nI 69) ≤ x1 → K x1 M) ∧ (¬ (nI 69) ≤ x1 → (vp_in ((nI 23) + x1) 92 ∧ (vp_in x1 92 ∧ ∀ M9 : Nat → Nat → Int32, M9 = um M 2 (upd (M 2) x1.toNatClampNeg (M 2 ((nI 23) + x1).toNatClampNeg)) → ∀ y10 : Int32, y10 = x1 + (nI 1) → w_X7_know_10 n y10 M9 K))))
set_option maxHeartbeats 4000000 in
set_option maxRecDepth 100000 in
theorem lp_X7_know_10 {E : EN} {Qf : PST} {K : Int32 → (Nat → Nat → Int32) → Prop} (hK : ∀ (z1 : Int32) (M : Nat → Nat → Int32), K z1 M → WP E iX7_know 1 0 0 false 37 [(0, .ref 0)] [] σM 10 M Qf) : ∀ (nn : Nat) (x1 : Int32) (M : Nat → Nat → Int32), w_X7_know_10 nn x1 M K → WP E iX7_know 1 0 0 false 10 [(0, .ref 0), (1, .int x1)] [] σM 10 M Qf := by
  intro nn
  induction nn with
  | zero => intro x1 M hs; exact hs.elim
  | succ n ih =>
    intro x1 M hs
    unfold w_X7_know_10 at hs
    refine wp_iload_n 1 dX7_know_10 rfl ?_
    refine wp_bipush (v := (nI 69)) dX7_know_11 (by decide) ?_
    refine wp_icmp_ge (tgt := 37) dX7_know_13 (by decide) (fun c8 => ?_) (fun c8 => ?_)
    · have hs := hs.1 c8
      refine wp_sub (ls' := [(0, .ref 0)]) [0] rfl ?_
      exact hK _ _ hs
    · have hs := hs.2 c8
      refine wp_aload_n 0 dX7_know_16 rfl ?_
      refine wp_get (v := .ref 2) dX7_know_17 rfl (by decide) rfl in_X7_know_X7 1 (by decide) fl_X7_know_13 rfl rfl ?_
      refine wp_iload_n 1 dX7_know_20 rfl ?_
      refine wp_aload_n 0 dX7_know_21 rfl ?_
      refine wp_get (v := .ref 2) dX7_know_22 rfl (by decide) rfl in_X7_know_X7 1 (by decide) fl_X7_know_13 rfl rfl ?_
      refine wp_bipush (v := (nI 23)) dX7_know_25 (by decide) ?_
      refine wp_iload_n 1 dX7_know_27 rfl ?_
      refine wp_iadd dX7_know_28 ?_
      have hv := hs.1
      have hs := hs.2
      refine wp_iald rfl (by decide) hv dX7_know_29 ?_
      have hv := hs.1
      have hs := hs.2
      refine wp_iast rfl (by decide) hv dX7_know_30 (fun M9 eM9 => ?_)
      have hs := hs M9 eM9
      obtain ⟨y10, ey10⟩ : ∃ y : Int32, y = x1 + (nI 1) := ⟨_, rfl⟩
      have hs := hs y10 ey10
      refine wp_iinc (v := y10) (ls' := [(0, .ref 0), (1, .int y10)]) 1 [1, 0] dX7_know_31 rfl (by rw [ey10]; rfl) rfl (by decide) ?_
      refine wp_goto (tgt := 10) dX7_know_34 (by decide) ?_
      refine wp_sub (ls' := [(0, .ref 0), (1, .int y10)]) [0, 1] rfl ?_
      exact ih _ _ hs
def w_X7_know (M : Nat → Nat → Int32) (Q : (Nat → Nat → Int32) → Prop) : Prop := ((¬ (M 0 2) = (nI 4) → w_X7_know_49 FU (nI 0) M (fun y5 M6 => ∀ M7 : Nat → Nat → Int32, M7 = um M6 0 (upd (M6 0) 2 ((M6 0 2) + (nI 1))) → Q M7)) ∧ ((M 0 2) = (nI 4) → w_X7_know_10 FU (nI 0) M (fun y11 M12 => ∀ M13 : Nat → Nat → Int32, M13 = um M12 0 (upd (M12 0) 2 ((M12 0 2) - (nI 1))) → w_X7_know_49 FU (nI 0) M13 (fun y14 M15 => ∀ M16 : Nat → Nat → Int32, M16 = um M15 0 (upd (M15 0) 2 ((M15 0 2) + (nI 1))) → Q M16))))
set_option maxHeartbeats 4000000 in
set_option maxRecDepth 100000 in
theorem mw_X7_know {E : EN} {M : Nat → Nat → Int32} {Q : (Nat → Nat → Int32) → Prop} (hs : w_X7_know M Q) : MW E iX7_know 1 0 0 false [.ref 0] σM 10 M (qV σM 10 Q) := by
  refine mw_intro (ls := [(0, .ref 0)]) rfl (by decide +kernel) rfl rfl (Nat.le_of_ble_eq_true rfl) ?_
  have hQ : ∀ M, Q M → (qV σM 10 Q) none σM 10 M := fun _ h => ⟨rfl, rfl, rfl, h⟩
  generalize (qV σM 10 Q) = Qf at hQ ⊢
  unfold w_X7_know at hs
  refine wp_aload_n 0 dX7_know_0 rfl ?_
  refine wp_get (v := .int (M 0 2)) dX7_know_1 rfl (by decide) rfl in_X7_know_X7 2 (by decide) fl_X7_know_41 rfl rfl ?_
  refine wp_iconst (v := (nI 4)) dX7_know_4 (by decide) ?_
  refine wp_icmp_ne (tgt := 47) dX7_know_5 (by decide) (fun c1 => ?_) (fun c1 => ?_)
  · have hs := hs.1 c1
    refine wp_iconst (v := (nI 0)) dX7_know_47 (by decide) ?_
    refine wp_istore_n (ls' := [(0, .ref 0), (1, .int (nI 0))]) [1, 0] dX7_know_48 rfl (by decide) ?_
    refine wp_sub (ls' := [(0, .ref 0), (1, .int (nI 0))]) [0, 1] rfl ?_
    refine lp_X7_know_49 (K := fun y5 M6 => ∀ M7 : Nat → Nat → Int32, M7 = um M6 0 (upd (M6 0) 2 ((M6 0 2) + (nI 1))) → Q M7) (fun y5 M6 hs => ?_) FU _ _ hs
    refine wp_aload_n 0 dX7_know_81 rfl ?_
    refine wp_dup rfl dX7_know_82 ?_
    refine wp_get (v := .int (M6 0 2)) dX7_know_83 rfl (by decide) rfl in_X7_know_X7 2 (by decide) fl_X7_know_41 rfl rfl ?_
    refine wp_iconst (v := (nI 1)) dX7_know_86 (by decide) ?_
    refine wp_iadd dX7_know_87 ?_
    refine wp_put (ty := .int) tyX7 tyX7_ok nmX7 rfl (by decide) rfl in_X7_know_X7 2 (by decide) fl_X7_know_41 rfl rfl (by decide +kernel) rfl rfl dX7_know_88 (fun M7 eM7 => ?_)
    have hs := hs M7 eM7
    exact wp_return rfl dX7_know_91 (hQ _ hs)
  · have hs := hs.2 c1
    refine wp_iconst (v := (nI 0)) dX7_know_8 (by decide) ?_
    refine wp_istore_n (ls' := [(0, .ref 0), (1, .int (nI 0))]) [1, 0] dX7_know_9 rfl (by decide) ?_
    refine wp_sub (ls' := [(0, .ref 0), (1, .int (nI 0))]) [0, 1] rfl ?_
    refine lp_X7_know_10 (K := fun y11 M12 => ∀ M13 : Nat → Nat → Int32, M13 = um M12 0 (upd (M12 0) 2 ((M12 0 2) - (nI 1))) → w_X7_know_49 FU (nI 0) M13 (fun y14 M15 => ∀ M16 : Nat → Nat → Int32, M16 = um M15 0 (upd (M15 0) 2 ((M15 0 2) + (nI 1))) → Q M16)) (fun y11 M12 hs => ?_) FU _ _ hs
    refine wp_aload_n 0 dX7_know_37 rfl ?_
    refine wp_dup rfl dX7_know_38 ?_
    refine wp_get (v := .int (M12 0 2)) dX7_know_39 rfl (by decide) rfl in_X7_know_X7 2 (by decide) fl_X7_know_41 rfl rfl ?_
    refine wp_iconst (v := (nI 1)) dX7_know_42 (by decide) ?_
    refine wp_isub dX7_know_43 ?_
    refine wp_put (ty := .int) tyX7 tyX7_ok nmX7 rfl (by decide) rfl in_X7_know_X7 2 (by decide) fl_X7_know_41 rfl rfl (by decide +kernel) rfl rfl dX7_know_44 (fun M13 eM13 => ?_)
    have hs := hs M13 eM13
    refine wp_iconst (v := (nI 0)) dX7_know_47 (by decide) ?_
    refine wp_istore_n (ls' := [(0, .ref 0), (1, .int (nI 0))]) [1, 0] dX7_know_48 rfl (by decide) ?_
    refine wp_sub (ls' := [(0, .ref 0), (1, .int (nI 0))]) [0, 1] rfl ?_
    refine lp_X7_know_49 (K := fun y14 M15 => ∀ M16 : Nat → Nat → Int32, M16 = um M15 0 (upd (M15 0) 2 ((M15 0 2) + (nI 1))) → Q M16) (fun y14 M15 hs => ?_) FU _ _ hs
    refine wp_aload_n 0 dX7_know_81 rfl ?_
    refine wp_dup rfl dX7_know_82 ?_
    refine wp_get (v := .int (M15 0 2)) dX7_know_83 rfl (by decide) rfl in_X7_know_X7 2 (by decide) fl_X7_know_41 rfl rfl ?_
    refine wp_iconst (v := (nI 1)) dX7_know_86 (by decide) ?_
    refine wp_iadd dX7_know_87 ?_
    refine wp_put (ty := .int) tyX7 tyX7_ok nmX7 rfl (by decide) rfl in_X7_know_X7 2 (by decide) fl_X7_know_41 rfl rfl (by decide +kernel) rfl rfl dX7_know_88 (fun M16 eM16 => ?_)
    have hs := hs M16 eM16
    exact wp_return rfl dX7_know_91 (hQ _ hs)
abbrev iX7_isUp : MI := (cX7_isUp, 3, some .boolean, RX7, yX7_isUp, wsX7_isUp)
theorem hy_X7_isUp : yX7_isUp.cls = RX7 ∧ yX7_isUp.cls ≠ "java/lang/invoke/MethodHandle" ∧ yX7_isUp.cls ≠ "java/lang/invoke/VarHandle" ∧ (parseMethodDescriptor yX7_isUp.desc).map (fun d => d.parameters.length) = some 2 := by decide +kernel
theorem in_X7_isUp_X7 : ∀ w ∈ u_ws RX7 TX7 13, w ∈ wsX7_isUp := by decide +kernel
theorem fl_X7_isUp_7 : Cond.fieldLink RX7 7 (TX7 0).1 (TX7 0).2.1 (TX7 0).2.2.1 ∈ wsX7_isUp := by decide +kernel
def w_X7_isUp (a : Int32) (b : Int32) (M : Nat → Nat → Int32) (Q : Int32 → (Nat → Nat → Int32) → Prop) : Prop := (vp_in ((nI 9) + a) 23 ∧ (((M 1 ((nI 9) + a).toNatClampNeg) = b → Q (nI 0) M) ∧ (¬ (M 1 ((nI 9) + a).toNatClampNeg) = b → Q (nI 1) M)))
set_option maxHeartbeats 4000000 in
set_option maxRecDepth 100000 in
theorem mw_X7_isUp {E : EN} {a : Int32} {b : Int32} {M : Nat → Nat → Int32} {Q : Int32 → (Nat → Nat → Int32) → Prop} (hs : w_X7_isUp a b M Q) : MW E iX7_isUp 1 0 0 false [.ref 0, .int a, .int b] σM 10 M (qI σM 10 Q) := by
  refine mw_intro (ls := [(0, .ref 0), (1, .int a), (2, .int b)]) rfl (by decide +kernel) rfl rfl (Nat.le_of_ble_eq_true rfl) ?_
  have hQ : ∀ x M, Q x M → (qI σM 10 Q) (some (.int x)) σM 10 M := fun _ _ h => ⟨_, rfl, rfl, rfl, h⟩
  generalize (qI σM 10 Q) = Qf at hQ ⊢
  unfold w_X7_isUp at hs
  refine wp_aload_n 0 dX7_isUp_0 rfl ?_
  refine wp_get (v := .ref 1) dX7_isUp_1 rfl (by decide) rfl in_X7_isUp_X7 0 (by decide) fl_X7_isUp_7 rfl rfl ?_
  refine wp_bipush (v := (nI 9)) dX7_isUp_4 (by decide) ?_
  refine wp_iload_n 1 dX7_isUp_6 rfl ?_
  refine wp_iadd dX7_isUp_7 ?_
  have hv := hs.1
  have hs := hs.2
  refine wp_iald rfl (by decide) hv dX7_isUp_8 ?_
  refine wp_iload_n 2 dX7_isUp_9 rfl ?_
  refine wp_icmp_eq (tgt := 17) dX7_isUp_10 (by decide) (fun c1 => ?_) (fun c1 => ?_)
  · have hs := hs.1 c1
    refine wp_iconst (v := (nI 0)) dX7_isUp_17 (by decide) ?_
    exact wp_ireturn rfl rfl dX7_isUp_18 (hQ _ _ hs)
  · have hs := hs.2 c1
    refine wp_iconst (v := (nI 1)) dX7_isUp_13 (by decide) ?_
    refine wp_goto (tgt := 18) dX7_isUp_14 (by decide) ?_
    exact wp_ireturn rfl rfl dX7_isUp_18 (hQ _ _ hs)
abbrev iX7_laySide : MI := (cX7_laySide, 12, none, RX7, yX7_laySide, wsX7_laySide)
theorem hy_X7_laySide : yX7_laySide.cls = RX7 ∧ yX7_laySide.cls ≠ "java/lang/invoke/MethodHandle" ∧ yX7_laySide.cls ≠ "java/lang/invoke/VarHandle" ∧ (parseMethodDescriptor yX7_laySide.desc).map (fun d => d.parameters.length) = some 4 := by decide +kernel
theorem in_X7_laySide_X7 : ∀ w ∈ u_ws RX7 TX7 13, w ∈ wsX7_laySide := by decide +kernel
theorem fl_X7_laySide_7 : Cond.fieldLink RX7 7 (TX7 0).1 (TX7 0).2.1 (TX7 0).2.2.1 ∈ wsX7_laySide := by decide +kernel
theorem fl_X7_laySide_22 : Cond.fieldLink RX7 22 (TX7 7).1 (TX7 7).2.1 (TX7 7).2.2.1 ∈ wsX7_laySide := by decide +kernel
theorem fl_X7_laySide_25 : Cond.fieldLink RX7 25 (TX7 8).1 (TX7 8).2.1 (TX7 8).2.2.1 ∈ wsX7_laySide := by decide +kernel
theorem fl_X7_laySide_28 : Cond.fieldLink RX7 28 (TX7 9).1 (TX7 9).2.1 (TX7 9).2.2.1 ∈ wsX7_laySide := by decide +kernel
theorem fl_X7_laySide_56 : Cond.fieldLink RX7 56 (TX7 10).1 (TX7 10).2.1 (TX7 10).2.2.1 ∈ wsX7_laySide := by decide +kernel
def w_X7_laySide_107 : Nat → Int32 → Int32 → Int32 → Int32 → Int32 → Int32 → Int32 → Int32 → Int32 → Int32 → (Nat → Nat → Int32) → (Int32 → (Nat → Nat → Int32) → Prop) → Prop
  | 0, _, _, _, _, _, _, _, _, _, _, _, _ => False
  | n + 1, x1, x2, x3, x4, x5, x6, x7, x8, x9, x11, M, K => (vp_in ((nI 1) + x9) 23 ∧ (((M 1 ((nI 1) + x9).toNatClampNeg) < x11 → K x11 M) ∧ (¬ (M 1 ((nI 1) + x9).toNatClampNeg) < x11 → ((¬ x5 = 0 → ((¬ x5 = (nI 2) → (vp_in (M 0 10) 80 ∧ ∀ M12 : Nat → Nat → Int32, M12 = um M 5 (upd (M 5) (M 0 10).toNatClampNeg (x6 + (x11 * (nI 0)))) → ((¬ x5 = (nI 1) → ((¬ x5 = (nI 3) → (vp_in (M12 0 10) 80 ∧ ∀ M15 : Nat → Nat → Int32, M15 = um M12 6 (upd (M12 6) (M12 0 10).toNatClampNeg (x7 + (x11 * (nI 0)))) → (vp_in (M15 0 10) 80 ∧ ∀ M16 : Nat → Nat → Int32, M16 = um M15 7 (upd (M15 7) (M15 0 10).toNatClampNeg x9) → ∀ M17 : Nat → Nat → Int32, M17 = um M16 0 (upd (M16 0) 10 ((M16 0 10) + (nI 1))) → ∀ y18 : Int32, y18 = x11 + (nI 1) → w_X7_laySide_107 n x1 x2 x3 x4 x5 x6 x7 x8 x9 y18 M17 K))) ∧ (x5 = (nI 3) → (vp_in (M12 0 10) 80 ∧ ∀ M19 : Nat → Nat → Int32, M19 = um M12 6 (upd (M12 6) (M12 0 10).toNatClampNeg (x7 + (x11 * (-1 : Int32)))) → (vp_in (M19 0 10) 80 ∧ ∀ M20 : Nat → Nat → Int32, M20 = um M19 7 (upd (M19 7) (M19 0 10).toNatClampNeg x9) → ∀ M21 : Nat → Nat → Int32, M21 = um M20 0 (upd (M20 0) 10 ((M20 0 10) + (nI 1))) → ∀ y22 : Int32, y22 = x11 + (nI 1) → w_X7_laySide_107 n x1 x2 x3 x4 x5 x6 x7 x8 x9 y22 M21 K))))) ∧ (x5 = (nI 1) → (vp_in (M12 0 10) 80 ∧ ∀ M23 : Nat → Nat → Int32, M23 = um M12 6 (upd (M12 6) (M12 0 10).toNatClampNeg (x7 + (x11 * (nI 1)))) → (vp_in (M23 0 10) 80 ∧ ∀ M24 : Nat → Nat → Int32, M24 = um M23 7 (upd (M23 7) (M23 0 10).toNatClampNeg x9) → ∀ M25 : Nat → Nat → Int32, M25 = um M24 0 (upd (M24 0) 10 ((M24 0 10) + (nI 1))) → ∀ y26 : Int32, y26 = x11 + (nI 1) → w_X7_laySide_107 n x1 x2 x3 x4 x5 x6 x7 x8 x9 y26 M25 K)))))) ∧ (x5 = (nI 2) → (vp_in (M 0 10) 80 ∧ ∀ M27 : Nat → Nat → Int32, M27 = um M 5 (upd (M 5) (M 0 10).toNatClampNeg (x6 + (x11 * (-1 : Int32)))) → ((¬ x5 = (nI 1) → ((¬ x5 = (nI 3) → (vp_in (M27 0 10) 80 ∧ ∀ M30 : Nat → Nat → Int32, M30 = um M27 6 (upd (M27 6) (M27 0 10).toNatClampNeg (x7 + (x11 * (nI 0)))) → (vp_in (M30 0 10) 80 ∧ ∀ M31 : Nat → Nat → Int32, M31 = um M30 7 (upd (M30 7) (M30 0 10).toNatClampNeg x9) → ∀ M32 : Nat → Nat → Int32, M32 = um M31 0 (upd (M31 0) 10 ((M31 0 10) + (nI 1))) → ∀ y33 : Int32, y33 = x11 + (nI 1) → w_X7_laySide_107 n x1 x2 x3 x4 x5 x6 x7 x8 x9 y33 M32 K))) ∧ (x5 = (nI 3) → (vp_in (M27 0 10) 80 ∧ ∀ M34 : Nat → Nat → Int32, M34 = um M27 6 (upd (M27 6) (M27 0 10).toNatClampNeg (x7 + (x11 * (-1 : Int32)))) → (vp_in (M34 0 10) 80 ∧ ∀ M35 : Nat → Nat → Int32, M35 = um M34 7 (upd (M34 7) (M34 0 10).toNatClampNeg x9) → ∀ M36 : Nat → Nat → Int32, M36 = um M35 0 (upd (M35 0) 10 ((M35 0 10) + (nI 1))) → ∀ y37 : Int32, y37 = x11 + (nI 1) → w_X7_laySide_107 n x1 x2 x3 x4 x5 x6 x7 x8 x9 y37 M36 K))))) ∧ (x5 = (nI 1) → (vp_in (M27 0 10) 80 ∧ ∀ M38 : Nat → Nat → Int32, M38 = um M27 6 (upd (M27 6) (M27 0 10).toNatClampNeg (x7 + (x11 * (nI 1)))) → (vp_in (M38 0 10) 80 ∧ ∀ M39 : Nat → Nat → Int32, M39 = um M38 7 (upd (M38 7) (M38 0 10).toNatClampNeg x9) → ∀ M40 : Nat → Nat → Int32, M40 = um M39 0 (upd (M39 0) 10 ((M39 0 10) + (nI 1))) → ∀ y41 : Int32, y41 = x11 + (nI 1) → w_X7_laySide_107 n x1 x2 x3 x4 x5 x6 x7 x8 x9 y41 M40 K)))))))) ∧ (x5 = 0 → (vp_in (M 0 10) 80 ∧ ∀ M42 : Nat → Nat → Int32, M42 = um M 5 (upd (M 5) (M 0 10).toNatClampNeg (x6 + (x11 * (nI 1)))) → ((¬ x5 = (nI 1) → ((¬ x5 = (nI 3) → (vp_in (M42 0 10) 80 ∧ ∀ M45 : Nat → Nat → Int32, M45 = um M42 6 (upd (M42 6) (M42 0 10).toNatClampNeg (x7 + (x11 * (nI 0)))) → (vp_in (M45 0 10) 80 ∧ ∀ M46 : Nat → Nat → Int32, M46 = um M45 7 (upd (M45 7) (M45 0 10).toNatClampNeg x9) → ∀ M47 : Nat → Nat → Int32, M47 = um M46 0 (upd (M46 0) 10 ((M46 0 10) + (nI 1))) → ∀ y48 : Int32, y48 = x11 + (nI 1) → w_X7_laySide_107 n x1 x2 x3 x4 x5 x6 x7 x8 x9 y48 M47 K))) ∧ (x5 = (nI 3) → (vp_in (M42 0 10) 80 ∧ ∀ M49 : Nat → Nat → Int32, M49 = um M42 6 (upd (M42 6) (M42 0 10).toNatClampNeg (x7 + (x11 * (-1 : Int32)))) → (vp_in (M49 0 10) 80 ∧ ∀ M50 : Nat → Nat → Int32, M50 = um M49 7 (upd (M49 7) (M49 0 10).toNatClampNeg x9) → ∀ M51 : Nat → Nat → Int32, M51 = um M50 0 (upd (M50 0) 10 ((M50 0 10) + (nI 1))) → ∀ y52 : Int32, y52 = x11 + (nI 1) → w_X7_laySide_107 n x1 x2 x3 x4 x5 x6 x7 x8 x9 y52 M51 K))))) ∧ (x5 = (nI 1) → (vp_in (M42 0 10) 80 ∧ ∀ M53 : Nat → Nat → Int32, M53 = um M42 6 (upd (M42 6) (M42 0 10).toNatClampNeg (x7 + (x11 * (nI 1)))) → (vp_in (M53 0 10) 80 ∧ ∀ M54 : Nat → Nat → Int32, M54 = um M53 7 (upd (M53 7) (M53 0 10).toNatClampNeg x9) → ∀ M55 : Nat → Nat → Int32, M55 = um M54 0 (upd (M54 0) 10 ((M54 0 10) + (nI 1))) → ∀ y56 : Int32, y56 = x11 + (nI 1) → w_X7_laySide_107 n x1 x2 x3 x4 x5 x6 x7 x8 x9 y56 M55 K))))))))))
set_option maxHeartbeats 4000000 in
set_option maxRecDepth 100000 in
theorem lp_X7_laySide_107 {E : EN} {x1 : Int32} {x2 : Int32} {x3 : Int32} {x4 : Int32} {x5 : Int32} {x6 : Int32} {x7 : Int32} {x8 : Int32} {x9 : Int32} {Qf : PST} {K : Int32 → (Nat → Nat → Int32) → Prop} (hK : ∀ (z11 : Int32) (M : Nat → Nat → Int32), K z11 M → WP E iX7_laySide 3 0 0 false 219 [(0, .ref 0), (1, .int x1), (2, .int x2), (3, .int x3), (4, .int x4), (5, .int x5), (8, .int x8), (9, .int x9)] [] σM 10 M Qf) : ∀ (nn : Nat) (x11 : Int32) (M : Nat → Nat → Int32), w_X7_laySide_107 nn x1 x2 x3 x4 x5 x6 x7 x8 x9 x11 M K → WP E iX7_laySide 3 0 0 false 107 [(0, .ref 0), (1, .int x1), (2, .int x2), (3, .int x3), (4, .int x4), (5, .int x5), (6, .int x6), (7, .int x7), (8, .int x8), (9, .int x9), (11, .int x11)] [] σM 10 M Qf := by
  intro nn
  induction nn with
  | zero => intro x11 M hs; exact hs.elim
  | succ n ih =>
    intro x11 M hs
    unfold w_X7_laySide_107 at hs
    refine wp_iload 10 dX7_laySide_107 rfl ?_
    refine wp_aload_n 0 dX7_laySide_109 rfl ?_
    refine wp_get (v := .ref 1) dX7_laySide_110 rfl (by decide) rfl in_X7_laySide_X7 0 (by decide) fl_X7_laySide_7 rfl rfl ?_
    refine wp_iconst (v := (nI 1)) dX7_laySide_113 (by decide) ?_
    refine wp_iload 9 dX7_laySide_114 rfl ?_
    refine wp_iadd dX7_laySide_116 ?_
    have hv := hs.1
    have hs := hs.2
    refine wp_iald rfl (by decide) hv dX7_laySide_117 ?_
    refine wp_icmp_gt (tgt := 219) dX7_laySide_118 (by decide) (fun c9 => ?_) (fun c9 => ?_)
    · have hs := hs.1 c9
      refine wp_sub (ls' := [(0, .ref 0), (1, .int x1), (2, .int x2), (3, .int x3), (4, .int x4), (5, .int x5), (8, .int x8), (9, .int x9)]) [0, 1, 2, 3, 4, 5, 8, 9] rfl ?_
      exact hK _ _ hs
    · have hs := hs.2 c9
      refine wp_aload_n 0 dX7_laySide_121 rfl ?_
      refine wp_get (v := .ref 5) dX7_laySide_122 rfl (by decide) rfl in_X7_laySide_X7 7 (by decide) fl_X7_laySide_22 rfl rfl ?_
      refine wp_aload_n 0 dX7_laySide_125 rfl ?_
      refine wp_get (v := .int (M 0 10)) dX7_laySide_126 rfl (by decide) rfl in_X7_laySide_X7 10 (by decide) fl_X7_laySide_56 rfl rfl ?_
      refine wp_iload 6 dX7_laySide_129 rfl ?_
      refine wp_iload 10 dX7_laySide_131 rfl ?_
      refine wp_iload 5 dX7_laySide_133 rfl ?_
      refine wp_if_ne (tgt := 142) dX7_laySide_135 (by decide) (fun c10 => ?_) (fun c10 => ?_)
      · have hs := hs.1 c10
        refine wp_iload 5 dX7_laySide_142 rfl ?_
        refine wp_iconst (v := (nI 2)) dX7_laySide_144 (by decide) ?_
        refine wp_icmp_ne (tgt := 152) dX7_laySide_145 (by decide) (fun c11 => ?_) (fun c11 => ?_)
        · have hs := hs.1 c11
          refine wp_iconst (v := (nI 0)) dX7_laySide_152 (by decide) ?_
          refine wp_imul dX7_laySide_153 ?_
          refine wp_iadd dX7_laySide_154 ?_
          have hv := hs.1
          have hs := hs.2
          refine wp_iast rfl (by decide) hv dX7_laySide_155 (fun M12 eM12 => ?_)
          have hs := hs M12 eM12
          refine wp_aload_n 0 dX7_laySide_156 rfl ?_
          refine wp_get (v := .ref 6) dX7_laySide_157 rfl (by decide) rfl in_X7_laySide_X7 8 (by decide) fl_X7_laySide_25 rfl rfl ?_
          refine wp_aload_n 0 dX7_laySide_160 rfl ?_
          refine wp_get (v := .int (M12 0 10)) dX7_laySide_161 rfl (by decide) rfl in_X7_laySide_X7 10 (by decide) fl_X7_laySide_56 rfl rfl ?_
          refine wp_iload 7 dX7_laySide_164 rfl ?_
          refine wp_iload 10 dX7_laySide_166 rfl ?_
          refine wp_iload 5 dX7_laySide_168 rfl ?_
          refine wp_iconst (v := (nI 1)) dX7_laySide_170 (by decide) ?_
          refine wp_icmp_ne (tgt := 178) dX7_laySide_171 (by decide) (fun c13 => ?_) (fun c13 => ?_)
          · have hs := hs.1 c13
            refine wp_iload 5 dX7_laySide_178 rfl ?_
            refine wp_iconst (v := (nI 3)) dX7_laySide_180 (by decide) ?_
            refine wp_icmp_ne (tgt := 188) dX7_laySide_181 (by decide) (fun c14 => ?_) (fun c14 => ?_)
            · have hs := hs.1 c14
              refine wp_iconst (v := (nI 0)) dX7_laySide_188 (by decide) ?_
              refine wp_imul dX7_laySide_189 ?_
              refine wp_iadd dX7_laySide_190 ?_
              have hv := hs.1
              have hs := hs.2
              refine wp_iast rfl (by decide) hv dX7_laySide_191 (fun M15 eM15 => ?_)
              have hs := hs M15 eM15
              refine wp_aload_n 0 dX7_laySide_192 rfl ?_
              refine wp_get (v := .ref 7) dX7_laySide_193 rfl (by decide) rfl in_X7_laySide_X7 9 (by decide) fl_X7_laySide_28 rfl rfl ?_
              refine wp_aload_n 0 dX7_laySide_196 rfl ?_
              refine wp_get (v := .int (M15 0 10)) dX7_laySide_197 rfl (by decide) rfl in_X7_laySide_X7 10 (by decide) fl_X7_laySide_56 rfl rfl ?_
              refine wp_iload 9 dX7_laySide_200 rfl ?_
              have hv := hs.1
              have hs := hs.2
              refine wp_iast rfl (by decide) hv dX7_laySide_202 (fun M16 eM16 => ?_)
              have hs := hs M16 eM16
              refine wp_aload_n 0 dX7_laySide_203 rfl ?_
              refine wp_dup rfl dX7_laySide_204 ?_
              refine wp_get (v := .int (M16 0 10)) dX7_laySide_205 rfl (by decide) rfl in_X7_laySide_X7 10 (by decide) fl_X7_laySide_56 rfl rfl ?_
              refine wp_iconst (v := (nI 1)) dX7_laySide_208 (by decide) ?_
              refine wp_iadd dX7_laySide_209 ?_
              refine wp_put (ty := .int) tyX7 tyX7_ok nmX7 rfl (by decide) rfl in_X7_laySide_X7 10 (by decide) fl_X7_laySide_56 rfl rfl (by decide +kernel) rfl rfl dX7_laySide_210 (fun M17 eM17 => ?_)
              have hs := hs M17 eM17
              obtain ⟨y18, ey18⟩ : ∃ y : Int32, y = x11 + (nI 1) := ⟨_, rfl⟩
              have hs := hs y18 ey18
              refine wp_iinc (v := y18) (ls' := [(0, .ref 0), (1, .int x1), (2, .int x2), (3, .int x3), (4, .int x4), (5, .int x5), (6, .int x6), (7, .int x7), (8, .int x8), (9, .int x9), (11, .int y18)]) 10 [1, 2, 3, 4, 5, 6, 7, 8, 9, 10, 0] dX7_laySide_213 rfl (by rw [ey18]; rfl) rfl (by decide) ?_
              refine wp_goto (tgt := 107) dX7_laySide_216 (by decide) ?_
              refine wp_sub (ls' := [(0, .ref 0), (1, .int x1), (2, .int x2), (3, .int x3), (4, .int x4), (5, .int x5), (6, .int x6), (7, .int x7), (8, .int x8), (9, .int x9), (11, .int y18)]) [0, 1, 2, 3, 4, 5, 6, 7, 8, 9, 10] rfl ?_
              exact ih _ _ hs
            · have hs := hs.2 c14
              refine wp_iconst (v := (-1 : Int32)) dX7_laySide_184 (by decide) ?_
              refine wp_goto (tgt := 189) dX7_laySide_185 (by decide) ?_
              refine wp_imul dX7_laySide_189 ?_
              refine wp_iadd dX7_laySide_190 ?_
              have hv := hs.1
              have hs := hs.2
              refine wp_iast rfl (by decide) hv dX7_laySide_191 (fun M19 eM19 => ?_)
              have hs := hs M19 eM19
              refine wp_aload_n 0 dX7_laySide_192 rfl ?_
              refine wp_get (v := .ref 7) dX7_laySide_193 rfl (by decide) rfl in_X7_laySide_X7 9 (by decide) fl_X7_laySide_28 rfl rfl ?_
              refine wp_aload_n 0 dX7_laySide_196 rfl ?_
              refine wp_get (v := .int (M19 0 10)) dX7_laySide_197 rfl (by decide) rfl in_X7_laySide_X7 10 (by decide) fl_X7_laySide_56 rfl rfl ?_
              refine wp_iload 9 dX7_laySide_200 rfl ?_
              have hv := hs.1
              have hs := hs.2
              refine wp_iast rfl (by decide) hv dX7_laySide_202 (fun M20 eM20 => ?_)
              have hs := hs M20 eM20
              refine wp_aload_n 0 dX7_laySide_203 rfl ?_
              refine wp_dup rfl dX7_laySide_204 ?_
              refine wp_get (v := .int (M20 0 10)) dX7_laySide_205 rfl (by decide) rfl in_X7_laySide_X7 10 (by decide) fl_X7_laySide_56 rfl rfl ?_
              refine wp_iconst (v := (nI 1)) dX7_laySide_208 (by decide) ?_
              refine wp_iadd dX7_laySide_209 ?_
              refine wp_put (ty := .int) tyX7 tyX7_ok nmX7 rfl (by decide) rfl in_X7_laySide_X7 10 (by decide) fl_X7_laySide_56 rfl rfl (by decide +kernel) rfl rfl dX7_laySide_210 (fun M21 eM21 => ?_)
              have hs := hs M21 eM21
              obtain ⟨y22, ey22⟩ : ∃ y : Int32, y = x11 + (nI 1) := ⟨_, rfl⟩
              have hs := hs y22 ey22
              refine wp_iinc (v := y22) (ls' := [(0, .ref 0), (1, .int x1), (2, .int x2), (3, .int x3), (4, .int x4), (5, .int x5), (6, .int x6), (7, .int x7), (8, .int x8), (9, .int x9), (11, .int y22)]) 10 [1, 2, 3, 4, 5, 6, 7, 8, 9, 10, 0] dX7_laySide_213 rfl (by rw [ey22]; rfl) rfl (by decide) ?_
              refine wp_goto (tgt := 107) dX7_laySide_216 (by decide) ?_
              refine wp_sub (ls' := [(0, .ref 0), (1, .int x1), (2, .int x2), (3, .int x3), (4, .int x4), (5, .int x5), (6, .int x6), (7, .int x7), (8, .int x8), (9, .int x9), (11, .int y22)]) [0, 1, 2, 3, 4, 5, 6, 7, 8, 9, 10] rfl ?_
              exact ih _ _ hs
          · have hs := hs.2 c13
            refine wp_iconst (v := (nI 1)) dX7_laySide_174 (by decide) ?_
            refine wp_goto (tgt := 189) dX7_laySide_175 (by decide) ?_
            refine wp_imul dX7_laySide_189 ?_
            refine wp_iadd dX7_laySide_190 ?_
            have hv := hs.1
            have hs := hs.2
            refine wp_iast rfl (by decide) hv dX7_laySide_191 (fun M23 eM23 => ?_)
            have hs := hs M23 eM23
            refine wp_aload_n 0 dX7_laySide_192 rfl ?_
            refine wp_get (v := .ref 7) dX7_laySide_193 rfl (by decide) rfl in_X7_laySide_X7 9 (by decide) fl_X7_laySide_28 rfl rfl ?_
            refine wp_aload_n 0 dX7_laySide_196 rfl ?_
            refine wp_get (v := .int (M23 0 10)) dX7_laySide_197 rfl (by decide) rfl in_X7_laySide_X7 10 (by decide) fl_X7_laySide_56 rfl rfl ?_
            refine wp_iload 9 dX7_laySide_200 rfl ?_
            have hv := hs.1
            have hs := hs.2
            refine wp_iast rfl (by decide) hv dX7_laySide_202 (fun M24 eM24 => ?_)
            have hs := hs M24 eM24
            refine wp_aload_n 0 dX7_laySide_203 rfl ?_
            refine wp_dup rfl dX7_laySide_204 ?_
            refine wp_get (v := .int (M24 0 10)) dX7_laySide_205 rfl (by decide) rfl in_X7_laySide_X7 10 (by decide) fl_X7_laySide_56 rfl rfl ?_
            refine wp_iconst (v := (nI 1)) dX7_laySide_208 (by decide) ?_
            refine wp_iadd dX7_laySide_209 ?_
            refine wp_put (ty := .int) tyX7 tyX7_ok nmX7 rfl (by decide) rfl in_X7_laySide_X7 10 (by decide) fl_X7_laySide_56 rfl rfl (by decide +kernel) rfl rfl dX7_laySide_210 (fun M25 eM25 => ?_)
            have hs := hs M25 eM25
            obtain ⟨y26, ey26⟩ : ∃ y : Int32, y = x11 + (nI 1) := ⟨_, rfl⟩
            have hs := hs y26 ey26
            refine wp_iinc (v := y26) (ls' := [(0, .ref 0), (1, .int x1), (2, .int x2), (3, .int x3), (4, .int x4), (5, .int x5), (6, .int x6), (7, .int x7), (8, .int x8), (9, .int x9), (11, .int y26)]) 10 [1, 2, 3, 4, 5, 6, 7, 8, 9, 10, 0] dX7_laySide_213 rfl (by rw [ey26]; rfl) rfl (by decide) ?_
            refine wp_goto (tgt := 107) dX7_laySide_216 (by decide) ?_
            refine wp_sub (ls' := [(0, .ref 0), (1, .int x1), (2, .int x2), (3, .int x3), (4, .int x4), (5, .int x5), (6, .int x6), (7, .int x7), (8, .int x8), (9, .int x9), (11, .int y26)]) [0, 1, 2, 3, 4, 5, 6, 7, 8, 9, 10] rfl ?_
            exact ih _ _ hs
        · have hs := hs.2 c11
          refine wp_iconst (v := (-1 : Int32)) dX7_laySide_148 (by decide) ?_
          refine wp_goto (tgt := 153) dX7_laySide_149 (by decide) ?_
          refine wp_imul dX7_laySide_153 ?_
          refine wp_iadd dX7_laySide_154 ?_
          have hv := hs.1
          have hs := hs.2
          refine wp_iast rfl (by decide) hv dX7_laySide_155 (fun M27 eM27 => ?_)
          have hs := hs M27 eM27
          refine wp_aload_n 0 dX7_laySide_156 rfl ?_
          refine wp_get (v := .ref 6) dX7_laySide_157 rfl (by decide) rfl in_X7_laySide_X7 8 (by decide) fl_X7_laySide_25 rfl rfl ?_
          refine wp_aload_n 0 dX7_laySide_160 rfl ?_
          refine wp_get (v := .int (M27 0 10)) dX7_laySide_161 rfl (by decide) rfl in_X7_laySide_X7 10 (by decide) fl_X7_laySide_56 rfl rfl ?_
          refine wp_iload 7 dX7_laySide_164 rfl ?_
          refine wp_iload 10 dX7_laySide_166 rfl ?_
          refine wp_iload 5 dX7_laySide_168 rfl ?_
          refine wp_iconst (v := (nI 1)) dX7_laySide_170 (by decide) ?_
          refine wp_icmp_ne (tgt := 178) dX7_laySide_171 (by decide) (fun c28 => ?_) (fun c28 => ?_)
          · have hs := hs.1 c28
            refine wp_iload 5 dX7_laySide_178 rfl ?_
            refine wp_iconst (v := (nI 3)) dX7_laySide_180 (by decide) ?_
            refine wp_icmp_ne (tgt := 188) dX7_laySide_181 (by decide) (fun c29 => ?_) (fun c29 => ?_)
            · have hs := hs.1 c29
              refine wp_iconst (v := (nI 0)) dX7_laySide_188 (by decide) ?_
              refine wp_imul dX7_laySide_189 ?_
              refine wp_iadd dX7_laySide_190 ?_
              have hv := hs.1
              have hs := hs.2
              refine wp_iast rfl (by decide) hv dX7_laySide_191 (fun M30 eM30 => ?_)
              have hs := hs M30 eM30
              refine wp_aload_n 0 dX7_laySide_192 rfl ?_
              refine wp_get (v := .ref 7) dX7_laySide_193 rfl (by decide) rfl in_X7_laySide_X7 9 (by decide) fl_X7_laySide_28 rfl rfl ?_
              refine wp_aload_n 0 dX7_laySide_196 rfl ?_
              refine wp_get (v := .int (M30 0 10)) dX7_laySide_197 rfl (by decide) rfl in_X7_laySide_X7 10 (by decide) fl_X7_laySide_56 rfl rfl ?_
              refine wp_iload 9 dX7_laySide_200 rfl ?_
              have hv := hs.1
              have hs := hs.2
              refine wp_iast rfl (by decide) hv dX7_laySide_202 (fun M31 eM31 => ?_)
              have hs := hs M31 eM31
              refine wp_aload_n 0 dX7_laySide_203 rfl ?_
              refine wp_dup rfl dX7_laySide_204 ?_
              refine wp_get (v := .int (M31 0 10)) dX7_laySide_205 rfl (by decide) rfl in_X7_laySide_X7 10 (by decide) fl_X7_laySide_56 rfl rfl ?_
              refine wp_iconst (v := (nI 1)) dX7_laySide_208 (by decide) ?_
              refine wp_iadd dX7_laySide_209 ?_
              refine wp_put (ty := .int) tyX7 tyX7_ok nmX7 rfl (by decide) rfl in_X7_laySide_X7 10 (by decide) fl_X7_laySide_56 rfl rfl (by decide +kernel) rfl rfl dX7_laySide_210 (fun M32 eM32 => ?_)
              have hs := hs M32 eM32
              obtain ⟨y33, ey33⟩ : ∃ y : Int32, y = x11 + (nI 1) := ⟨_, rfl⟩
              have hs := hs y33 ey33
              refine wp_iinc (v := y33) (ls' := [(0, .ref 0), (1, .int x1), (2, .int x2), (3, .int x3), (4, .int x4), (5, .int x5), (6, .int x6), (7, .int x7), (8, .int x8), (9, .int x9), (11, .int y33)]) 10 [1, 2, 3, 4, 5, 6, 7, 8, 9, 10, 0] dX7_laySide_213 rfl (by rw [ey33]; rfl) rfl (by decide) ?_
              refine wp_goto (tgt := 107) dX7_laySide_216 (by decide) ?_
              refine wp_sub (ls' := [(0, .ref 0), (1, .int x1), (2, .int x2), (3, .int x3), (4, .int x4), (5, .int x5), (6, .int x6), (7, .int x7), (8, .int x8), (9, .int x9), (11, .int y33)]) [0, 1, 2, 3, 4, 5, 6, 7, 8, 9, 10] rfl ?_
              exact ih _ _ hs
            · have hs := hs.2 c29
              refine wp_iconst (v := (-1 : Int32)) dX7_laySide_184 (by decide) ?_
              refine wp_goto (tgt := 189) dX7_laySide_185 (by decide) ?_
              refine wp_imul dX7_laySide_189 ?_
              refine wp_iadd dX7_laySide_190 ?_
              have hv := hs.1
              have hs := hs.2
              refine wp_iast rfl (by decide) hv dX7_laySide_191 (fun M34 eM34 => ?_)
              have hs := hs M34 eM34
              refine wp_aload_n 0 dX7_laySide_192 rfl ?_
              refine wp_get (v := .ref 7) dX7_laySide_193 rfl (by decide) rfl in_X7_laySide_X7 9 (by decide) fl_X7_laySide_28 rfl rfl ?_
              refine wp_aload_n 0 dX7_laySide_196 rfl ?_
              refine wp_get (v := .int (M34 0 10)) dX7_laySide_197 rfl (by decide) rfl in_X7_laySide_X7 10 (by decide) fl_X7_laySide_56 rfl rfl ?_
              refine wp_iload 9 dX7_laySide_200 rfl ?_
              have hv := hs.1
              have hs := hs.2
              refine wp_iast rfl (by decide) hv dX7_laySide_202 (fun M35 eM35 => ?_)
              have hs := hs M35 eM35
              refine wp_aload_n 0 dX7_laySide_203 rfl ?_
              refine wp_dup rfl dX7_laySide_204 ?_
              refine wp_get (v := .int (M35 0 10)) dX7_laySide_205 rfl (by decide) rfl in_X7_laySide_X7 10 (by decide) fl_X7_laySide_56 rfl rfl ?_
              refine wp_iconst (v := (nI 1)) dX7_laySide_208 (by decide) ?_
              refine wp_iadd dX7_laySide_209 ?_
              refine wp_put (ty := .int) tyX7 tyX7_ok nmX7 rfl (by decide) rfl in_X7_laySide_X7 10 (by decide) fl_X7_laySide_56 rfl rfl (by decide +kernel) rfl rfl dX7_laySide_210 (fun M36 eM36 => ?_)
              have hs := hs M36 eM36
              obtain ⟨y37, ey37⟩ : ∃ y : Int32, y = x11 + (nI 1) := ⟨_, rfl⟩
              have hs := hs y37 ey37
              refine wp_iinc (v := y37) (ls' := [(0, .ref 0), (1, .int x1), (2, .int x2), (3, .int x3), (4, .int x4), (5, .int x5), (6, .int x6), (7, .int x7), (8, .int x8), (9, .int x9), (11, .int y37)]) 10 [1, 2, 3, 4, 5, 6, 7, 8, 9, 10, 0] dX7_laySide_213 rfl (by rw [ey37]; rfl) rfl (by decide) ?_
              refine wp_goto (tgt := 107) dX7_laySide_216 (by decide) ?_
              refine wp_sub (ls' := [(0, .ref 0), (1, .int x1), (2, .int x2), (3, .int x3), (4, .int x4), (5, .int x5), (6, .int x6), (7, .int x7), (8, .int x8), (9, .int x9), (11, .int y37)]) [0, 1, 2, 3, 4, 5, 6, 7, 8, 9, 10] rfl ?_
              exact ih _ _ hs
          · have hs := hs.2 c28
            refine wp_iconst (v := (nI 1)) dX7_laySide_174 (by decide) ?_
            refine wp_goto (tgt := 189) dX7_laySide_175 (by decide) ?_
            refine wp_imul dX7_laySide_189 ?_
            refine wp_iadd dX7_laySide_190 ?_
            have hv := hs.1
            have hs := hs.2
            refine wp_iast rfl (by decide) hv dX7_laySide_191 (fun M38 eM38 => ?_)
            have hs := hs M38 eM38
            refine wp_aload_n 0 dX7_laySide_192 rfl ?_
            refine wp_get (v := .ref 7) dX7_laySide_193 rfl (by decide) rfl in_X7_laySide_X7 9 (by decide) fl_X7_laySide_28 rfl rfl ?_
            refine wp_aload_n 0 dX7_laySide_196 rfl ?_
            refine wp_get (v := .int (M38 0 10)) dX7_laySide_197 rfl (by decide) rfl in_X7_laySide_X7 10 (by decide) fl_X7_laySide_56 rfl rfl ?_
            refine wp_iload 9 dX7_laySide_200 rfl ?_
            have hv := hs.1
            have hs := hs.2
            refine wp_iast rfl (by decide) hv dX7_laySide_202 (fun M39 eM39 => ?_)
            have hs := hs M39 eM39
            refine wp_aload_n 0 dX7_laySide_203 rfl ?_
            refine wp_dup rfl dX7_laySide_204 ?_
            refine wp_get (v := .int (M39 0 10)) dX7_laySide_205 rfl (by decide) rfl in_X7_laySide_X7 10 (by decide) fl_X7_laySide_56 rfl rfl ?_
            refine wp_iconst (v := (nI 1)) dX7_laySide_208 (by decide) ?_
            refine wp_iadd dX7_laySide_209 ?_
            refine wp_put (ty := .int) tyX7 tyX7_ok nmX7 rfl (by decide) rfl in_X7_laySide_X7 10 (by decide) fl_X7_laySide_56 rfl rfl (by decide +kernel) rfl rfl dX7_laySide_210 (fun M40 eM40 => ?_)
            have hs := hs M40 eM40
            obtain ⟨y41, ey41⟩ : ∃ y : Int32, y = x11 + (nI 1) := ⟨_, rfl⟩
            have hs := hs y41 ey41
            refine wp_iinc (v := y41) (ls' := [(0, .ref 0), (1, .int x1), (2, .int x2), (3, .int x3), (4, .int x4), (5, .int x5), (6, .int x6), (7, .int x7), (8, .int x8), (9, .int x9), (11, .int y41)]) 10 [1, 2, 3, 4, 5, 6, 7, 8, 9, 10, 0] dX7_laySide_213 rfl (by rw [ey41]; rfl) rfl (by decide) ?_
            refine wp_goto (tgt := 107) dX7_laySide_216 (by decide) ?_
            refine wp_sub (ls' := [(0, .ref 0), (1, .int x1), (2, .int x2), (3, .int x3), (4, .int x4), (5, .int x5), (6, .int x6), (7, .int x7), (8, .int x8), (9, .int x9), (11, .int y41)]) [0, 1, 2, 3, 4, 5, 6, 7, 8, 9, 10] rfl ?_
            exact ih _ _ hs
      · have hs := hs.2 c10
        refine wp_iconst (v := (nI 1)) dX7_laySide_138 (by decide) ?_
        refine wp_goto (tgt := 153) dX7_laySide_139 (by decide) ?_
        refine wp_imul dX7_laySide_153 ?_
        refine wp_iadd dX7_laySide_154 ?_
        have hv := hs.1
        have hs := hs.2
        refine wp_iast rfl (by decide) hv dX7_laySide_155 (fun M42 eM42 => ?_)
        have hs := hs M42 eM42
        refine wp_aload_n 0 dX7_laySide_156 rfl ?_
        refine wp_get (v := .ref 6) dX7_laySide_157 rfl (by decide) rfl in_X7_laySide_X7 8 (by decide) fl_X7_laySide_25 rfl rfl ?_
        refine wp_aload_n 0 dX7_laySide_160 rfl ?_
        refine wp_get (v := .int (M42 0 10)) dX7_laySide_161 rfl (by decide) rfl in_X7_laySide_X7 10 (by decide) fl_X7_laySide_56 rfl rfl ?_
        refine wp_iload 7 dX7_laySide_164 rfl ?_
        refine wp_iload 10 dX7_laySide_166 rfl ?_
        refine wp_iload 5 dX7_laySide_168 rfl ?_
        refine wp_iconst (v := (nI 1)) dX7_laySide_170 (by decide) ?_
        refine wp_icmp_ne (tgt := 178) dX7_laySide_171 (by decide) (fun c43 => ?_) (fun c43 => ?_)
        · have hs := hs.1 c43
          refine wp_iload 5 dX7_laySide_178 rfl ?_
          refine wp_iconst (v := (nI 3)) dX7_laySide_180 (by decide) ?_
          refine wp_icmp_ne (tgt := 188) dX7_laySide_181 (by decide) (fun c44 => ?_) (fun c44 => ?_)
          · have hs := hs.1 c44
            refine wp_iconst (v := (nI 0)) dX7_laySide_188 (by decide) ?_
            refine wp_imul dX7_laySide_189 ?_
            refine wp_iadd dX7_laySide_190 ?_
            have hv := hs.1
            have hs := hs.2
            refine wp_iast rfl (by decide) hv dX7_laySide_191 (fun M45 eM45 => ?_)
            have hs := hs M45 eM45
            refine wp_aload_n 0 dX7_laySide_192 rfl ?_
            refine wp_get (v := .ref 7) dX7_laySide_193 rfl (by decide) rfl in_X7_laySide_X7 9 (by decide) fl_X7_laySide_28 rfl rfl ?_
            refine wp_aload_n 0 dX7_laySide_196 rfl ?_
            refine wp_get (v := .int (M45 0 10)) dX7_laySide_197 rfl (by decide) rfl in_X7_laySide_X7 10 (by decide) fl_X7_laySide_56 rfl rfl ?_
            refine wp_iload 9 dX7_laySide_200 rfl ?_
            have hv := hs.1
            have hs := hs.2
            refine wp_iast rfl (by decide) hv dX7_laySide_202 (fun M46 eM46 => ?_)
            have hs := hs M46 eM46
            refine wp_aload_n 0 dX7_laySide_203 rfl ?_
            refine wp_dup rfl dX7_laySide_204 ?_
            refine wp_get (v := .int (M46 0 10)) dX7_laySide_205 rfl (by decide) rfl in_X7_laySide_X7 10 (by decide) fl_X7_laySide_56 rfl rfl ?_
            refine wp_iconst (v := (nI 1)) dX7_laySide_208 (by decide) ?_
            refine wp_iadd dX7_laySide_209 ?_
            refine wp_put (ty := .int) tyX7 tyX7_ok nmX7 rfl (by decide) rfl in_X7_laySide_X7 10 (by decide) fl_X7_laySide_56 rfl rfl (by decide +kernel) rfl rfl dX7_laySide_210 (fun M47 eM47 => ?_)
            have hs := hs M47 eM47
            obtain ⟨y48, ey48⟩ : ∃ y : Int32, y = x11 + (nI 1) := ⟨_, rfl⟩
            have hs := hs y48 ey48
            refine wp_iinc (v := y48) (ls' := [(0, .ref 0), (1, .int x1), (2, .int x2), (3, .int x3), (4, .int x4), (5, .int x5), (6, .int x6), (7, .int x7), (8, .int x8), (9, .int x9), (11, .int y48)]) 10 [1, 2, 3, 4, 5, 6, 7, 8, 9, 10, 0] dX7_laySide_213 rfl (by rw [ey48]; rfl) rfl (by decide) ?_
            refine wp_goto (tgt := 107) dX7_laySide_216 (by decide) ?_
            refine wp_sub (ls' := [(0, .ref 0), (1, .int x1), (2, .int x2), (3, .int x3), (4, .int x4), (5, .int x5), (6, .int x6), (7, .int x7), (8, .int x8), (9, .int x9), (11, .int y48)]) [0, 1, 2, 3, 4, 5, 6, 7, 8, 9, 10] rfl ?_
            exact ih _ _ hs
          · have hs := hs.2 c44
            refine wp_iconst (v := (-1 : Int32)) dX7_laySide_184 (by decide) ?_
            refine wp_goto (tgt := 189) dX7_laySide_185 (by decide) ?_
            refine wp_imul dX7_laySide_189 ?_
            refine wp_iadd dX7_laySide_190 ?_
            have hv := hs.1
            have hs := hs.2
            refine wp_iast rfl (by decide) hv dX7_laySide_191 (fun M49 eM49 => ?_)
            have hs := hs M49 eM49
            refine wp_aload_n 0 dX7_laySide_192 rfl ?_
            refine wp_get (v := .ref 7) dX7_laySide_193 rfl (by decide) rfl in_X7_laySide_X7 9 (by decide) fl_X7_laySide_28 rfl rfl ?_
            refine wp_aload_n 0 dX7_laySide_196 rfl ?_
            refine wp_get (v := .int (M49 0 10)) dX7_laySide_197 rfl (by decide) rfl in_X7_laySide_X7 10 (by decide) fl_X7_laySide_56 rfl rfl ?_
            refine wp_iload 9 dX7_laySide_200 rfl ?_
            have hv := hs.1
            have hs := hs.2
            refine wp_iast rfl (by decide) hv dX7_laySide_202 (fun M50 eM50 => ?_)
            have hs := hs M50 eM50
            refine wp_aload_n 0 dX7_laySide_203 rfl ?_
            refine wp_dup rfl dX7_laySide_204 ?_
            refine wp_get (v := .int (M50 0 10)) dX7_laySide_205 rfl (by decide) rfl in_X7_laySide_X7 10 (by decide) fl_X7_laySide_56 rfl rfl ?_
            refine wp_iconst (v := (nI 1)) dX7_laySide_208 (by decide) ?_
            refine wp_iadd dX7_laySide_209 ?_
            refine wp_put (ty := .int) tyX7 tyX7_ok nmX7 rfl (by decide) rfl in_X7_laySide_X7 10 (by decide) fl_X7_laySide_56 rfl rfl (by decide +kernel) rfl rfl dX7_laySide_210 (fun M51 eM51 => ?_)
            have hs := hs M51 eM51
            obtain ⟨y52, ey52⟩ : ∃ y : Int32, y = x11 + (nI 1) := ⟨_, rfl⟩
            have hs := hs y52 ey52
            refine wp_iinc (v := y52) (ls' := [(0, .ref 0), (1, .int x1), (2, .int x2), (3, .int x3), (4, .int x4), (5, .int x5), (6, .int x6), (7, .int x7), (8, .int x8), (9, .int x9), (11, .int y52)]) 10 [1, 2, 3, 4, 5, 6, 7, 8, 9, 10, 0] dX7_laySide_213 rfl (by rw [ey52]; rfl) rfl (by decide) ?_
            refine wp_goto (tgt := 107) dX7_laySide_216 (by decide) ?_
            refine wp_sub (ls' := [(0, .ref 0), (1, .int x1), (2, .int x2), (3, .int x3), (4, .int x4), (5, .int x5), (6, .int x6), (7, .int x7), (8, .int x8), (9, .int x9), (11, .int y52)]) [0, 1, 2, 3, 4, 5, 6, 7, 8, 9, 10] rfl ?_
            exact ih _ _ hs
        · have hs := hs.2 c43
          refine wp_iconst (v := (nI 1)) dX7_laySide_174 (by decide) ?_
          refine wp_goto (tgt := 189) dX7_laySide_175 (by decide) ?_
          refine wp_imul dX7_laySide_189 ?_
          refine wp_iadd dX7_laySide_190 ?_
          have hv := hs.1
          have hs := hs.2
          refine wp_iast rfl (by decide) hv dX7_laySide_191 (fun M53 eM53 => ?_)
          have hs := hs M53 eM53
          refine wp_aload_n 0 dX7_laySide_192 rfl ?_
          refine wp_get (v := .ref 7) dX7_laySide_193 rfl (by decide) rfl in_X7_laySide_X7 9 (by decide) fl_X7_laySide_28 rfl rfl ?_
          refine wp_aload_n 0 dX7_laySide_196 rfl ?_
          refine wp_get (v := .int (M53 0 10)) dX7_laySide_197 rfl (by decide) rfl in_X7_laySide_X7 10 (by decide) fl_X7_laySide_56 rfl rfl ?_
          refine wp_iload 9 dX7_laySide_200 rfl ?_
          have hv := hs.1
          have hs := hs.2
          refine wp_iast rfl (by decide) hv dX7_laySide_202 (fun M54 eM54 => ?_)
          have hs := hs M54 eM54
          refine wp_aload_n 0 dX7_laySide_203 rfl ?_
          refine wp_dup rfl dX7_laySide_204 ?_
          refine wp_get (v := .int (M54 0 10)) dX7_laySide_205 rfl (by decide) rfl in_X7_laySide_X7 10 (by decide) fl_X7_laySide_56 rfl rfl ?_
          refine wp_iconst (v := (nI 1)) dX7_laySide_208 (by decide) ?_
          refine wp_iadd dX7_laySide_209 ?_
          refine wp_put (ty := .int) tyX7 tyX7_ok nmX7 rfl (by decide) rfl in_X7_laySide_X7 10 (by decide) fl_X7_laySide_56 rfl rfl (by decide +kernel) rfl rfl dX7_laySide_210 (fun M55 eM55 => ?_)
          have hs := hs M55 eM55
          obtain ⟨y56, ey56⟩ : ∃ y : Int32, y = x11 + (nI 1) := ⟨_, rfl⟩
          have hs := hs y56 ey56
          refine wp_iinc (v := y56) (ls' := [(0, .ref 0), (1, .int x1), (2, .int x2), (3, .int x3), (4, .int x4), (5, .int x5), (6, .int x6), (7, .int x7), (8, .int x8), (9, .int x9), (11, .int y56)]) 10 [1, 2, 3, 4, 5, 6, 7, 8, 9, 10, 0] dX7_laySide_213 rfl (by rw [ey56]; rfl) rfl (by decide) ?_
          refine wp_goto (tgt := 107) dX7_laySide_216 (by decide) ?_
          refine wp_sub (ls' := [(0, .ref 0), (1, .int x1), (2, .int x2), (3, .int x3), (4, .int x4), (5, .int x5), (6, .int x6), (7, .int x7), (8, .int x8), (9, .int x9), (11, .int y56)]) [0, 1, 2, 3, 4, 5, 6, 7, 8, 9, 10] rfl ?_
          exact ih _ _ hs
def w_X7_laySide_41 : Nat → Int32 → Int32 → Int32 → Int32 → Int32 → Int32 → Int32 → Int32 → Int32 → (Nat → Nat → Int32) → (Int32 → Int32 → Int32 → Int32 → (Nat → Nat → Int32) → Prop) → Prop
  | 0, _, _, _, _, _, _, _, _, _, _, _ => False
  | n + 1, x1, x2, x3, x4, x5, x6, x7, x8, x9, M, K => w_X7_isFlange x9 M (fun v5 M4 => ((v5 = 0 → K x5 x6 x7 x9 M4) ∧ (¬ v5 = 0 → ((x2 = 0 → ((x9 = x1 → w_X7_laySide_107 FU x1 x2 x3 x4 x5 x6 x7 x8 x9 (nI 0) M4 (fun y57 M58 => (vp_in ((M58 0 10) - (nI 1)) 80 ∧ ∀ y59 : Int32, y59 = (M58 5 ((M58 0 10) - (nI 1)).toNatClampNeg) → (vp_in ((M58 0 10) - (nI 1)) 80 ∧ ∀ y60 : Int32, y60 = (M58 6 ((M58 0 10) - (nI 1)).toNatClampNeg) → ∀ y61 : Int32, y61 = (x9 + x8) → w_X7_laySide_41 n x1 x2 x3 x4 x5 y59 y60 x8 y61 M58 K)))) ∧ (¬ x9 = x1 → w_X7_has x3 x9 M4 (fun v63 M62 => ((v63 = 0 → w_X7_laySide_107 FU x1 x2 x3 x4 x5 x6 x7 x8 x9 (nI 0) M62 (fun y65 M66 => (vp_in ((M66 0 10) - (nI 1)) 80 ∧ ∀ y67 : Int32, y67 = (M66 5 ((M66 0 10) - (nI 1)).toNatClampNeg) → (vp_in ((M66 0 10) - (nI 1)) 80 ∧ ∀ y68 : Int32, y68 = (M66 6 ((M66 0 10) - (nI 1)).toNatClampNeg) → ∀ y69 : Int32, y69 = (x9 + x8) → w_X7_laySide_41 n x1 x2 x3 x4 x5 y67 y68 x8 y69 M66 K)))) ∧ (¬ v63 = 0 → w_X7_isUp x9 x4 M62 (fun v71 M70 => ((¬ v71 = x2 → ∀ y73 : Int32, y73 = ((x5 + (nI 3)) - (x5 + (nI 3)) / (nI 4) * (nI 4)) → w_X7_laySide_107 FU x1 x2 x3 x4 y73 x6 x7 x8 x9 (nI 0) M70 (fun y74 M75 => (vp_in ((M75 0 10) - (nI 1)) 80 ∧ ∀ y76 : Int32, y76 = (M75 5 ((M75 0 10) - (nI 1)).toNatClampNeg) → (vp_in ((M75 0 10) - (nI 1)) 80 ∧ ∀ y77 : Int32, y77 = (M75 6 ((M75 0 10) - (nI 1)).toNatClampNeg) → ∀ y78 : Int32, y78 = (x9 + x8) → w_X7_laySide_41 n x1 x2 x3 x4 y73 y76 y77 x8 y78 M75 K)))) ∧ (v71 = x2 → ∀ y79 : Int32, y79 = ((x5 + (nI 1)) - (x5 + (nI 1)) / (nI 4) * (nI 4)) → w_X7_laySide_107 FU x1 x2 x3 x4 y79 x6 x7 x8 x9 (nI 0) M70 (fun y80 M81 => (vp_in ((M81 0 10) - (nI 1)) 80 ∧ ∀ y82 : Int32, y82 = (M81 5 ((M81 0 10) - (nI 1)).toNatClampNeg) → (vp_in ((M81 0 10) - (nI 1)) 80 ∧ ∀ y83 : Int32, y83 = (M81 6 ((M81 0 10) - (nI 1)).toNatClampNeg) → ∀ y84 : Int32, y84 = (x9 + x8) → w_X7_laySide_41 n x1 x2 x3 x4 y79 y82 y83 x8 y84 M81 K)))))))))))) ∧ (¬ x2 = 0 → ∀ y85 : Int32, y85 = (x9 - (nI 1)) → ((y85 = x1 → w_X7_laySide_107 FU x1 x2 x3 x4 x5 x6 x7 x8 x9 (nI 0) M4 (fun y87 M88 => (vp_in ((M88 0 10) - (nI 1)) 80 ∧ ∀ y89 : Int32, y89 = (M88 5 ((M88 0 10) - (nI 1)).toNatClampNeg) → (vp_in ((M88 0 10) - (nI 1)) 80 ∧ ∀ y90 : Int32, y90 = (M88 6 ((M88 0 10) - (nI 1)).toNatClampNeg) → ∀ y91 : Int32, y91 = (x9 + x8) → w_X7_laySide_41 n x1 x2 x3 x4 x5 y89 y90 x8 y91 M88 K)))) ∧ (¬ y85 = x1 → w_X7_has x3 y85 M4 (fun v93 M92 => ((v93 = 0 → w_X7_laySide_107 FU x1 x2 x3 x4 x5 x6 x7 x8 x9 (nI 0) M92 (fun y95 M96 => (vp_in ((M96 0 10) - (nI 1)) 80 ∧ ∀ y97 : Int32, y97 = (M96 5 ((M96 0 10) - (nI 1)).toNatClampNeg) → (vp_in ((M96 0 10) - (nI 1)) 80 ∧ ∀ y98 : Int32, y98 = (M96 6 ((M96 0 10) - (nI 1)).toNatClampNeg) → ∀ y99 : Int32, y99 = (x9 + x8) → w_X7_laySide_41 n x1 x2 x3 x4 x5 y97 y98 x8 y99 M96 K)))) ∧ (¬ v93 = 0 → w_X7_isUp y85 x4 M92 (fun v101 M100 => ((¬ v101 = x2 → ∀ y103 : Int32, y103 = ((x5 + (nI 3)) - (x5 + (nI 3)) / (nI 4) * (nI 4)) → w_X7_laySide_107 FU x1 x2 x3 x4 y103 x6 x7 x8 x9 (nI 0) M100 (fun y104 M105 => (vp_in ((M105 0 10) - (nI 1)) 80 ∧ ∀ y106 : Int32, y106 = (M105 5 ((M105 0 10) - (nI 1)).toNatClampNeg) → (vp_in ((M105 0 10) - (nI 1)) 80 ∧ ∀ y107 : Int32, y107 = (M105 6 ((M105 0 10) - (nI 1)).toNatClampNeg) → ∀ y108 : Int32, y108 = (x9 + x8) → w_X7_laySide_41 n x1 x2 x3 x4 y103 y106 y107 x8 y108 M105 K)))) ∧ (v101 = x2 → ∀ y109 : Int32, y109 = ((x5 + (nI 1)) - (x5 + (nI 1)) / (nI 4) * (nI 4)) → w_X7_laySide_107 FU x1 x2 x3 x4 y109 x6 x7 x8 x9 (nI 0) M100 (fun y110 M111 => (vp_in ((M111 0 10) - (nI 1)) 80 ∧ ∀ y112 : Int32, y112 = (M111 5 ((M111 0 10) - (nI 1)).toNatClampNeg) → (vp_in ((M111 0 10) - (nI 1)) 80 ∧ ∀ y113 : Int32, y113 = (M111 6 ((M111 0 10) - (nI 1)).toNatClampNeg) → ∀ y114 : Int32, y114 = (x9 + x8) → w_X7_laySide_41 n x1 x2 x3 x4 y109 y112 y113 x8 y114 M111 K))))))))))))))))
set_option maxHeartbeats 4000000 in
set_option maxRecDepth 100000 in
theorem lp_X7_laySide_41 {E : EN} {x1 : Int32} {x2 : Int32} {x3 : Int32} {x4 : Int32} {x8 : Int32} {Qf : PST} {K : Int32 → Int32 → Int32 → Int32 → (Nat → Nat → Int32) → Prop} (hK : ∀ (z5 : Int32) (z6 : Int32) (z7 : Int32) (z9 : Int32) (M : Nat → Nat → Int32), K z5 z6 z7 z9 M → WP E iX7_laySide 3 0 0 false 255 [] [] σM 10 M Qf) : ∀ (nn : Nat) (x5 : Int32) (x6 : Int32) (x7 : Int32) (x9 : Int32) (M : Nat → Nat → Int32), w_X7_laySide_41 nn x1 x2 x3 x4 x5 x6 x7 x8 x9 M K → WP E iX7_laySide 3 0 0 false 41 [(0, .ref 0), (1, .int x1), (2, .int x2), (3, .int x3), (4, .int x4), (5, .int x5), (6, .int x6), (7, .int x7), (8, .int x8), (9, .int x9)] [] σM 10 M Qf := by
  intro nn
  induction nn with
  | zero => intro x5 x6 x7 x9 M hs; exact hs.elim
  | succ n ih =>
    intro x5 x6 x7 x9 M hs
    unfold w_X7_laySide_41 at hs
    refine wp_aload_n 0 dX7_laySide_41 rfl ?_
    refine wp_iload 9 dX7_laySide_42 rfl ?_
    refine wp_cVi (As := [.int x9]) (st := []) (mw_X7_isFlange  hs) gX7_laySide_X7_isFlange rfl hy_X7_isFlange rfl rfl (by decide) rfl (by decide) (by decide) (Nat.le_of_ble_eq_true rfl) rfl dX7_laySide_44 (fun v5 M4 hs => ?_)
    refine wp_if_eq (tgt := 255) dX7_laySide_47 (by decide) (fun c6 => ?_) (fun c6 => ?_)
    · have hs := hs.1 c6
      refine wp_sub (ls' := []) [] rfl ?_
      exact hK _ _ _ _ _ hs
    · have hs := hs.2 c6
      refine wp_iload_n 2 dX7_laySide_50 rfl ?_
      refine wp_if_eq (tgt := 61) dX7_laySide_51 (by decide) (fun c7 => ?_) (fun c7 => ?_)
      · have hs := hs.1 c7
        refine wp_iload 9 dX7_laySide_61 rfl ?_
        refine wp_istore (ls' := [(0, .ref 0), (1, .int x1), (2, .int x2), (3, .int x3), (4, .int x4), (5, .int x5), (6, .int x6), (7, .int x7), (8, .int x8), (9, .int x9), (10, .int x9)]) [1, 2, 3, 4, 5, 6, 7, 8, 9, 10, 0] dX7_laySide_63 rfl (by decide) ?_
        refine wp_iload 10 dX7_laySide_65 rfl ?_
        refine wp_iload_n 1 dX7_laySide_67 rfl ?_
        refine wp_icmp_eq (tgt := 104) dX7_laySide_68 (by decide) (fun c8 => ?_) (fun c8 => ?_)
        · have hs := hs.1 c8
          refine wp_iconst (v := (nI 0)) dX7_laySide_104 (by decide) ?_
          refine wp_istore (ls' := [(0, .ref 0), (1, .int x1), (2, .int x2), (3, .int x3), (4, .int x4), (5, .int x5), (6, .int x6), (7, .int x7), (8, .int x8), (9, .int x9), (10, .int x9), (11, .int (nI 0))]) [1, 2, 3, 4, 5, 6, 7, 8, 9, 10, 11, 0] dX7_laySide_105 rfl (by decide) ?_
          refine wp_sub (ls' := [(0, .ref 0), (1, .int x1), (2, .int x2), (3, .int x3), (4, .int x4), (5, .int x5), (6, .int x6), (7, .int x7), (8, .int x8), (9, .int x9), (11, .int (nI 0))]) [0, 1, 2, 3, 4, 5, 6, 7, 8, 9, 11] rfl ?_
          refine lp_X7_laySide_107 (K := fun y57 M58 => (vp_in ((M58 0 10) - (nI 1)) 80 ∧ ∀ y59 : Int32, y59 = (M58 5 ((M58 0 10) - (nI 1)).toNatClampNeg) → (vp_in ((M58 0 10) - (nI 1)) 80 ∧ ∀ y60 : Int32, y60 = (M58 6 ((M58 0 10) - (nI 1)).toNatClampNeg) → ∀ y61 : Int32, y61 = (x9 + x8) → w_X7_laySide_41 n x1 x2 x3 x4 x5 y59 y60 x8 y61 M58 K))) (fun y57 M58 hs => ?_) FU _ _ hs
          refine wp_aload_n 0 dX7_laySide_219 rfl ?_
          refine wp_get (v := .ref 5) dX7_laySide_220 rfl (by decide) rfl in_X7_laySide_X7 7 (by decide) fl_X7_laySide_22 rfl rfl ?_
          refine wp_aload_n 0 dX7_laySide_223 rfl ?_
          refine wp_get (v := .int (M58 0 10)) dX7_laySide_224 rfl (by decide) rfl in_X7_laySide_X7 10 (by decide) fl_X7_laySide_56 rfl rfl ?_
          refine wp_iconst (v := (nI 1)) dX7_laySide_227 (by decide) ?_
          refine wp_isub dX7_laySide_228 ?_
          have hv := hs.1
          have hs := hs.2
          refine wp_iald rfl (by decide) hv dX7_laySide_229 ?_
          refine wp_topi (fun y59 ey59 => ?_)
          have hs := hs y59 ey59
          refine wp_istore (ls' := [(0, .ref 0), (1, .int x1), (2, .int x2), (3, .int x3), (4, .int x4), (5, .int x5), (6, .int y59), (8, .int x8), (9, .int x9)]) [1, 2, 3, 4, 5, 6, 0, 7, 8] dX7_laySide_230 rfl (by decide) ?_
          refine wp_aload_n 0 dX7_laySide_232 rfl ?_
          refine wp_get (v := .ref 6) dX7_laySide_233 rfl (by decide) rfl in_X7_laySide_X7 8 (by decide) fl_X7_laySide_25 rfl rfl ?_
          refine wp_aload_n 0 dX7_laySide_236 rfl ?_
          refine wp_get (v := .int (M58 0 10)) dX7_laySide_237 rfl (by decide) rfl in_X7_laySide_X7 10 (by decide) fl_X7_laySide_56 rfl rfl ?_
          refine wp_iconst (v := (nI 1)) dX7_laySide_240 (by decide) ?_
          refine wp_isub dX7_laySide_241 ?_
          have hv := hs.1
          have hs := hs.2
          refine wp_iald rfl (by decide) hv dX7_laySide_242 ?_
          refine wp_topi (fun y60 ey60 => ?_)
          have hs := hs y60 ey60
          refine wp_istore (ls' := [(0, .ref 0), (1, .int x1), (2, .int x2), (3, .int x3), (4, .int x4), (5, .int x5), (6, .int y59), (7, .int y60), (8, .int x8), (9, .int x9)]) [1, 2, 3, 4, 5, 6, 7, 0, 8, 9] dX7_laySide_243 rfl (by decide) ?_
          refine wp_iload 9 dX7_laySide_245 rfl ?_
          refine wp_iload 8 dX7_laySide_247 rfl ?_
          refine wp_iadd dX7_laySide_249 ?_
          refine wp_topi (fun y61 ey61 => ?_)
          have hs := hs y61 ey61
          refine wp_istore (ls' := [(0, .ref 0), (1, .int x1), (2, .int x2), (3, .int x3), (4, .int x4), (5, .int x5), (6, .int y59), (7, .int y60), (8, .int x8), (9, .int y61)]) [1, 2, 3, 4, 5, 6, 7, 8, 9, 0] dX7_laySide_250 rfl (by decide) ?_
          refine wp_goto (tgt := 41) dX7_laySide_252 (by decide) ?_
          refine wp_sub (ls' := [(0, .ref 0), (1, .int x1), (2, .int x2), (3, .int x3), (4, .int x4), (5, .int x5), (6, .int y59), (7, .int y60), (8, .int x8), (9, .int y61)]) [0, 1, 2, 3, 4, 5, 6, 7, 8, 9] rfl ?_
          exact ih _ _ _ _ _ hs
        · have hs := hs.2 c8
          refine wp_iload_n 3 dX7_laySide_71 rfl ?_
          refine wp_iload 10 dX7_laySide_72 rfl ?_
          refine wp_cSi (As := [.int x3, .int x9]) (st := []) (mw_X7_has  hs) gX7_laySide_X7_has rfl hy_X7_has rfl (by decide) (by decide) (Nat.le_of_ble_eq_true rfl) rfl dX7_laySide_74 (fun v63 M62 hs => ?_)
          refine wp_if_eq (tgt := 104) dX7_laySide_77 (by decide) (fun c64 => ?_) (fun c64 => ?_)
          · have hs := hs.1 c64
            refine wp_iconst (v := (nI 0)) dX7_laySide_104 (by decide) ?_
            refine wp_istore (ls' := [(0, .ref 0), (1, .int x1), (2, .int x2), (3, .int x3), (4, .int x4), (5, .int x5), (6, .int x6), (7, .int x7), (8, .int x8), (9, .int x9), (10, .int x9), (11, .int (nI 0))]) [1, 2, 3, 4, 5, 6, 7, 8, 9, 10, 11, 0] dX7_laySide_105 rfl (by decide) ?_
            refine wp_sub (ls' := [(0, .ref 0), (1, .int x1), (2, .int x2), (3, .int x3), (4, .int x4), (5, .int x5), (6, .int x6), (7, .int x7), (8, .int x8), (9, .int x9), (11, .int (nI 0))]) [0, 1, 2, 3, 4, 5, 6, 7, 8, 9, 11] rfl ?_
            refine lp_X7_laySide_107 (K := fun y65 M66 => (vp_in ((M66 0 10) - (nI 1)) 80 ∧ ∀ y67 : Int32, y67 = (M66 5 ((M66 0 10) - (nI 1)).toNatClampNeg) → (vp_in ((M66 0 10) - (nI 1)) 80 ∧ ∀ y68 : Int32, y68 = (M66 6 ((M66 0 10) - (nI 1)).toNatClampNeg) → ∀ y69 : Int32, y69 = (x9 + x8) → w_X7_laySide_41 n x1 x2 x3 x4 x5 y67 y68 x8 y69 M66 K))) (fun y65 M66 hs => ?_) FU _ _ hs
            refine wp_aload_n 0 dX7_laySide_219 rfl ?_
            refine wp_get (v := .ref 5) dX7_laySide_220 rfl (by decide) rfl in_X7_laySide_X7 7 (by decide) fl_X7_laySide_22 rfl rfl ?_
            refine wp_aload_n 0 dX7_laySide_223 rfl ?_
            refine wp_get (v := .int (M66 0 10)) dX7_laySide_224 rfl (by decide) rfl in_X7_laySide_X7 10 (by decide) fl_X7_laySide_56 rfl rfl ?_
            refine wp_iconst (v := (nI 1)) dX7_laySide_227 (by decide) ?_
            refine wp_isub dX7_laySide_228 ?_
            have hv := hs.1
            have hs := hs.2
            refine wp_iald rfl (by decide) hv dX7_laySide_229 ?_
            refine wp_topi (fun y67 ey67 => ?_)
            have hs := hs y67 ey67
            refine wp_istore (ls' := [(0, .ref 0), (1, .int x1), (2, .int x2), (3, .int x3), (4, .int x4), (5, .int x5), (6, .int y67), (8, .int x8), (9, .int x9)]) [1, 2, 3, 4, 5, 6, 0, 7, 8] dX7_laySide_230 rfl (by decide) ?_
            refine wp_aload_n 0 dX7_laySide_232 rfl ?_
            refine wp_get (v := .ref 6) dX7_laySide_233 rfl (by decide) rfl in_X7_laySide_X7 8 (by decide) fl_X7_laySide_25 rfl rfl ?_
            refine wp_aload_n 0 dX7_laySide_236 rfl ?_
            refine wp_get (v := .int (M66 0 10)) dX7_laySide_237 rfl (by decide) rfl in_X7_laySide_X7 10 (by decide) fl_X7_laySide_56 rfl rfl ?_
            refine wp_iconst (v := (nI 1)) dX7_laySide_240 (by decide) ?_
            refine wp_isub dX7_laySide_241 ?_
            have hv := hs.1
            have hs := hs.2
            refine wp_iald rfl (by decide) hv dX7_laySide_242 ?_
            refine wp_topi (fun y68 ey68 => ?_)
            have hs := hs y68 ey68
            refine wp_istore (ls' := [(0, .ref 0), (1, .int x1), (2, .int x2), (3, .int x3), (4, .int x4), (5, .int x5), (6, .int y67), (7, .int y68), (8, .int x8), (9, .int x9)]) [1, 2, 3, 4, 5, 6, 7, 0, 8, 9] dX7_laySide_243 rfl (by decide) ?_
            refine wp_iload 9 dX7_laySide_245 rfl ?_
            refine wp_iload 8 dX7_laySide_247 rfl ?_
            refine wp_iadd dX7_laySide_249 ?_
            refine wp_topi (fun y69 ey69 => ?_)
            have hs := hs y69 ey69
            refine wp_istore (ls' := [(0, .ref 0), (1, .int x1), (2, .int x2), (3, .int x3), (4, .int x4), (5, .int x5), (6, .int y67), (7, .int y68), (8, .int x8), (9, .int y69)]) [1, 2, 3, 4, 5, 6, 7, 8, 9, 0] dX7_laySide_250 rfl (by decide) ?_
            refine wp_goto (tgt := 41) dX7_laySide_252 (by decide) ?_
            refine wp_sub (ls' := [(0, .ref 0), (1, .int x1), (2, .int x2), (3, .int x3), (4, .int x4), (5, .int x5), (6, .int y67), (7, .int y68), (8, .int x8), (9, .int y69)]) [0, 1, 2, 3, 4, 5, 6, 7, 8, 9] rfl ?_
            exact ih _ _ _ _ _ hs
          · have hs := hs.2 c64
            refine wp_iload 5 dX7_laySide_80 rfl ?_
            refine wp_aload_n 0 dX7_laySide_82 rfl ?_
            refine wp_iload 10 dX7_laySide_83 rfl ?_
            refine wp_iload 4 dX7_laySide_85 rfl ?_
            refine wp_cVi (As := [.int x9, .int x4]) (st := [.int x5]) (mw_X7_isUp  hs) gX7_laySide_X7_isUp rfl hy_X7_isUp rfl rfl (by decide) rfl (by decide) (by decide) (Nat.le_of_ble_eq_true rfl) rfl dX7_laySide_87 (fun v71 M70 hs => ?_)
            refine wp_iload_n 2 dX7_laySide_90 rfl ?_
            refine wp_icmp_ne (tgt := 98) dX7_laySide_91 (by decide) (fun c72 => ?_) (fun c72 => ?_)
            · have hs := hs.1 c72
              refine wp_iconst (v := (nI 3)) dX7_laySide_98 (by decide) ?_
              refine wp_iadd dX7_laySide_99 ?_
              refine wp_iconst (v := (nI 4)) dX7_laySide_100 (by decide) ?_
              refine wp_irem dX7_laySide_101 (by decide) ?_
              refine wp_topi (fun y73 ey73 => ?_)
              have hs := hs y73 ey73
              refine wp_istore (ls' := [(0, .ref 0), (1, .int x1), (2, .int x2), (3, .int x3), (4, .int x4), (5, .int y73), (6, .int x6), (7, .int x7), (8, .int x8), (9, .int x9), (10, .int x9)]) [1, 2, 3, 4, 5, 0, 6, 7, 8, 9, 10] dX7_laySide_102 rfl (by decide) ?_
              refine wp_iconst (v := (nI 0)) dX7_laySide_104 (by decide) ?_
              refine wp_istore (ls' := [(0, .ref 0), (1, .int x1), (2, .int x2), (3, .int x3), (4, .int x4), (5, .int y73), (6, .int x6), (7, .int x7), (8, .int x8), (9, .int x9), (10, .int x9), (11, .int (nI 0))]) [1, 2, 3, 4, 5, 6, 7, 8, 9, 10, 11, 0] dX7_laySide_105 rfl (by decide) ?_
              refine wp_sub (ls' := [(0, .ref 0), (1, .int x1), (2, .int x2), (3, .int x3), (4, .int x4), (5, .int y73), (6, .int x6), (7, .int x7), (8, .int x8), (9, .int x9), (11, .int (nI 0))]) [0, 1, 2, 3, 4, 5, 6, 7, 8, 9, 11] rfl ?_
              refine lp_X7_laySide_107 (K := fun y74 M75 => (vp_in ((M75 0 10) - (nI 1)) 80 ∧ ∀ y76 : Int32, y76 = (M75 5 ((M75 0 10) - (nI 1)).toNatClampNeg) → (vp_in ((M75 0 10) - (nI 1)) 80 ∧ ∀ y77 : Int32, y77 = (M75 6 ((M75 0 10) - (nI 1)).toNatClampNeg) → ∀ y78 : Int32, y78 = (x9 + x8) → w_X7_laySide_41 n x1 x2 x3 x4 y73 y76 y77 x8 y78 M75 K))) (fun y74 M75 hs => ?_) FU _ _ hs
              refine wp_aload_n 0 dX7_laySide_219 rfl ?_
              refine wp_get (v := .ref 5) dX7_laySide_220 rfl (by decide) rfl in_X7_laySide_X7 7 (by decide) fl_X7_laySide_22 rfl rfl ?_
              refine wp_aload_n 0 dX7_laySide_223 rfl ?_
              refine wp_get (v := .int (M75 0 10)) dX7_laySide_224 rfl (by decide) rfl in_X7_laySide_X7 10 (by decide) fl_X7_laySide_56 rfl rfl ?_
              refine wp_iconst (v := (nI 1)) dX7_laySide_227 (by decide) ?_
              refine wp_isub dX7_laySide_228 ?_
              have hv := hs.1
              have hs := hs.2
              refine wp_iald rfl (by decide) hv dX7_laySide_229 ?_
              refine wp_topi (fun y76 ey76 => ?_)
              have hs := hs y76 ey76
              refine wp_istore (ls' := [(0, .ref 0), (1, .int x1), (2, .int x2), (3, .int x3), (4, .int x4), (5, .int y73), (6, .int y76), (8, .int x8), (9, .int x9)]) [1, 2, 3, 4, 5, 6, 0, 7, 8] dX7_laySide_230 rfl (by decide) ?_
              refine wp_aload_n 0 dX7_laySide_232 rfl ?_
              refine wp_get (v := .ref 6) dX7_laySide_233 rfl (by decide) rfl in_X7_laySide_X7 8 (by decide) fl_X7_laySide_25 rfl rfl ?_
              refine wp_aload_n 0 dX7_laySide_236 rfl ?_
              refine wp_get (v := .int (M75 0 10)) dX7_laySide_237 rfl (by decide) rfl in_X7_laySide_X7 10 (by decide) fl_X7_laySide_56 rfl rfl ?_
              refine wp_iconst (v := (nI 1)) dX7_laySide_240 (by decide) ?_
              refine wp_isub dX7_laySide_241 ?_
              have hv := hs.1
              have hs := hs.2
              refine wp_iald rfl (by decide) hv dX7_laySide_242 ?_
              refine wp_topi (fun y77 ey77 => ?_)
              have hs := hs y77 ey77
              refine wp_istore (ls' := [(0, .ref 0), (1, .int x1), (2, .int x2), (3, .int x3), (4, .int x4), (5, .int y73), (6, .int y76), (7, .int y77), (8, .int x8), (9, .int x9)]) [1, 2, 3, 4, 5, 6, 7, 0, 8, 9] dX7_laySide_243 rfl (by decide) ?_
              refine wp_iload 9 dX7_laySide_245 rfl ?_
              refine wp_iload 8 dX7_laySide_247 rfl ?_
              refine wp_iadd dX7_laySide_249 ?_
              refine wp_topi (fun y78 ey78 => ?_)
              have hs := hs y78 ey78
              refine wp_istore (ls' := [(0, .ref 0), (1, .int x1), (2, .int x2), (3, .int x3), (4, .int x4), (5, .int y73), (6, .int y76), (7, .int y77), (8, .int x8), (9, .int y78)]) [1, 2, 3, 4, 5, 6, 7, 8, 9, 0] dX7_laySide_250 rfl (by decide) ?_
              refine wp_goto (tgt := 41) dX7_laySide_252 (by decide) ?_
              refine wp_sub (ls' := [(0, .ref 0), (1, .int x1), (2, .int x2), (3, .int x3), (4, .int x4), (5, .int y73), (6, .int y76), (7, .int y77), (8, .int x8), (9, .int y78)]) [0, 1, 2, 3, 4, 5, 6, 7, 8, 9] rfl ?_
              exact ih _ _ _ _ _ hs
            · have hs := hs.2 c72
              refine wp_iconst (v := (nI 1)) dX7_laySide_94 (by decide) ?_
              refine wp_goto (tgt := 99) dX7_laySide_95 (by decide) ?_
              refine wp_iadd dX7_laySide_99 ?_
              refine wp_iconst (v := (nI 4)) dX7_laySide_100 (by decide) ?_
              refine wp_irem dX7_laySide_101 (by decide) ?_
              refine wp_topi (fun y79 ey79 => ?_)
              have hs := hs y79 ey79
              refine wp_istore (ls' := [(0, .ref 0), (1, .int x1), (2, .int x2), (3, .int x3), (4, .int x4), (5, .int y79), (6, .int x6), (7, .int x7), (8, .int x8), (9, .int x9), (10, .int x9)]) [1, 2, 3, 4, 5, 0, 6, 7, 8, 9, 10] dX7_laySide_102 rfl (by decide) ?_
              refine wp_iconst (v := (nI 0)) dX7_laySide_104 (by decide) ?_
              refine wp_istore (ls' := [(0, .ref 0), (1, .int x1), (2, .int x2), (3, .int x3), (4, .int x4), (5, .int y79), (6, .int x6), (7, .int x7), (8, .int x8), (9, .int x9), (10, .int x9), (11, .int (nI 0))]) [1, 2, 3, 4, 5, 6, 7, 8, 9, 10, 11, 0] dX7_laySide_105 rfl (by decide) ?_
              refine wp_sub (ls' := [(0, .ref 0), (1, .int x1), (2, .int x2), (3, .int x3), (4, .int x4), (5, .int y79), (6, .int x6), (7, .int x7), (8, .int x8), (9, .int x9), (11, .int (nI 0))]) [0, 1, 2, 3, 4, 5, 6, 7, 8, 9, 11] rfl ?_
              refine lp_X7_laySide_107 (K := fun y80 M81 => (vp_in ((M81 0 10) - (nI 1)) 80 ∧ ∀ y82 : Int32, y82 = (M81 5 ((M81 0 10) - (nI 1)).toNatClampNeg) → (vp_in ((M81 0 10) - (nI 1)) 80 ∧ ∀ y83 : Int32, y83 = (M81 6 ((M81 0 10) - (nI 1)).toNatClampNeg) → ∀ y84 : Int32, y84 = (x9 + x8) → w_X7_laySide_41 n x1 x2 x3 x4 y79 y82 y83 x8 y84 M81 K))) (fun y80 M81 hs => ?_) FU _ _ hs
              refine wp_aload_n 0 dX7_laySide_219 rfl ?_
              refine wp_get (v := .ref 5) dX7_laySide_220 rfl (by decide) rfl in_X7_laySide_X7 7 (by decide) fl_X7_laySide_22 rfl rfl ?_
              refine wp_aload_n 0 dX7_laySide_223 rfl ?_
              refine wp_get (v := .int (M81 0 10)) dX7_laySide_224 rfl (by decide) rfl in_X7_laySide_X7 10 (by decide) fl_X7_laySide_56 rfl rfl ?_
              refine wp_iconst (v := (nI 1)) dX7_laySide_227 (by decide) ?_
              refine wp_isub dX7_laySide_228 ?_
              have hv := hs.1
              have hs := hs.2
              refine wp_iald rfl (by decide) hv dX7_laySide_229 ?_
              refine wp_topi (fun y82 ey82 => ?_)
              have hs := hs y82 ey82
              refine wp_istore (ls' := [(0, .ref 0), (1, .int x1), (2, .int x2), (3, .int x3), (4, .int x4), (5, .int y79), (6, .int y82), (8, .int x8), (9, .int x9)]) [1, 2, 3, 4, 5, 6, 0, 7, 8] dX7_laySide_230 rfl (by decide) ?_
              refine wp_aload_n 0 dX7_laySide_232 rfl ?_
              refine wp_get (v := .ref 6) dX7_laySide_233 rfl (by decide) rfl in_X7_laySide_X7 8 (by decide) fl_X7_laySide_25 rfl rfl ?_
              refine wp_aload_n 0 dX7_laySide_236 rfl ?_
              refine wp_get (v := .int (M81 0 10)) dX7_laySide_237 rfl (by decide) rfl in_X7_laySide_X7 10 (by decide) fl_X7_laySide_56 rfl rfl ?_
              refine wp_iconst (v := (nI 1)) dX7_laySide_240 (by decide) ?_
              refine wp_isub dX7_laySide_241 ?_
              have hv := hs.1
              have hs := hs.2
              refine wp_iald rfl (by decide) hv dX7_laySide_242 ?_
              refine wp_topi (fun y83 ey83 => ?_)
              have hs := hs y83 ey83
              refine wp_istore (ls' := [(0, .ref 0), (1, .int x1), (2, .int x2), (3, .int x3), (4, .int x4), (5, .int y79), (6, .int y82), (7, .int y83), (8, .int x8), (9, .int x9)]) [1, 2, 3, 4, 5, 6, 7, 0, 8, 9] dX7_laySide_243 rfl (by decide) ?_
              refine wp_iload 9 dX7_laySide_245 rfl ?_
              refine wp_iload 8 dX7_laySide_247 rfl ?_
              refine wp_iadd dX7_laySide_249 ?_
              refine wp_topi (fun y84 ey84 => ?_)
              have hs := hs y84 ey84
              refine wp_istore (ls' := [(0, .ref 0), (1, .int x1), (2, .int x2), (3, .int x3), (4, .int x4), (5, .int y79), (6, .int y82), (7, .int y83), (8, .int x8), (9, .int y84)]) [1, 2, 3, 4, 5, 6, 7, 8, 9, 0] dX7_laySide_250 rfl (by decide) ?_
              refine wp_goto (tgt := 41) dX7_laySide_252 (by decide) ?_
              refine wp_sub (ls' := [(0, .ref 0), (1, .int x1), (2, .int x2), (3, .int x3), (4, .int x4), (5, .int y79), (6, .int y82), (7, .int y83), (8, .int x8), (9, .int y84)]) [0, 1, 2, 3, 4, 5, 6, 7, 8, 9] rfl ?_
              exact ih _ _ _ _ _ hs
      · have hs := hs.2 c7
        refine wp_iload 9 dX7_laySide_54 rfl ?_
        refine wp_iconst (v := (nI 1)) dX7_laySide_56 (by decide) ?_
        refine wp_isub dX7_laySide_57 ?_
        refine wp_goto (tgt := 63) dX7_laySide_58 (by decide) ?_
        refine wp_topi (fun y85 ey85 => ?_)
        have hs := hs y85 ey85
        refine wp_istore (ls' := [(0, .ref 0), (1, .int x1), (2, .int x2), (3, .int x3), (4, .int x4), (5, .int x5), (6, .int x6), (7, .int x7), (8, .int x8), (9, .int x9), (10, .int y85)]) [1, 2, 3, 4, 5, 6, 7, 8, 9, 10, 0] dX7_laySide_63 rfl (by decide) ?_
        refine wp_iload 10 dX7_laySide_65 rfl ?_
        refine wp_iload_n 1 dX7_laySide_67 rfl ?_
        refine wp_icmp_eq (tgt := 104) dX7_laySide_68 (by decide) (fun c86 => ?_) (fun c86 => ?_)
        · have hs := hs.1 c86
          refine wp_iconst (v := (nI 0)) dX7_laySide_104 (by decide) ?_
          refine wp_istore (ls' := [(0, .ref 0), (1, .int x1), (2, .int x2), (3, .int x3), (4, .int x4), (5, .int x5), (6, .int x6), (7, .int x7), (8, .int x8), (9, .int x9), (10, .int y85), (11, .int (nI 0))]) [1, 2, 3, 4, 5, 6, 7, 8, 9, 10, 11, 0] dX7_laySide_105 rfl (by decide) ?_
          refine wp_sub (ls' := [(0, .ref 0), (1, .int x1), (2, .int x2), (3, .int x3), (4, .int x4), (5, .int x5), (6, .int x6), (7, .int x7), (8, .int x8), (9, .int x9), (11, .int (nI 0))]) [0, 1, 2, 3, 4, 5, 6, 7, 8, 9, 11] rfl ?_
          refine lp_X7_laySide_107 (K := fun y87 M88 => (vp_in ((M88 0 10) - (nI 1)) 80 ∧ ∀ y89 : Int32, y89 = (M88 5 ((M88 0 10) - (nI 1)).toNatClampNeg) → (vp_in ((M88 0 10) - (nI 1)) 80 ∧ ∀ y90 : Int32, y90 = (M88 6 ((M88 0 10) - (nI 1)).toNatClampNeg) → ∀ y91 : Int32, y91 = (x9 + x8) → w_X7_laySide_41 n x1 x2 x3 x4 x5 y89 y90 x8 y91 M88 K))) (fun y87 M88 hs => ?_) FU _ _ hs
          refine wp_aload_n 0 dX7_laySide_219 rfl ?_
          refine wp_get (v := .ref 5) dX7_laySide_220 rfl (by decide) rfl in_X7_laySide_X7 7 (by decide) fl_X7_laySide_22 rfl rfl ?_
          refine wp_aload_n 0 dX7_laySide_223 rfl ?_
          refine wp_get (v := .int (M88 0 10)) dX7_laySide_224 rfl (by decide) rfl in_X7_laySide_X7 10 (by decide) fl_X7_laySide_56 rfl rfl ?_
          refine wp_iconst (v := (nI 1)) dX7_laySide_227 (by decide) ?_
          refine wp_isub dX7_laySide_228 ?_
          have hv := hs.1
          have hs := hs.2
          refine wp_iald rfl (by decide) hv dX7_laySide_229 ?_
          refine wp_topi (fun y89 ey89 => ?_)
          have hs := hs y89 ey89
          refine wp_istore (ls' := [(0, .ref 0), (1, .int x1), (2, .int x2), (3, .int x3), (4, .int x4), (5, .int x5), (6, .int y89), (8, .int x8), (9, .int x9)]) [1, 2, 3, 4, 5, 6, 0, 7, 8] dX7_laySide_230 rfl (by decide) ?_
          refine wp_aload_n 0 dX7_laySide_232 rfl ?_
          refine wp_get (v := .ref 6) dX7_laySide_233 rfl (by decide) rfl in_X7_laySide_X7 8 (by decide) fl_X7_laySide_25 rfl rfl ?_
          refine wp_aload_n 0 dX7_laySide_236 rfl ?_
          refine wp_get (v := .int (M88 0 10)) dX7_laySide_237 rfl (by decide) rfl in_X7_laySide_X7 10 (by decide) fl_X7_laySide_56 rfl rfl ?_
          refine wp_iconst (v := (nI 1)) dX7_laySide_240 (by decide) ?_
          refine wp_isub dX7_laySide_241 ?_
          have hv := hs.1
          have hs := hs.2
          refine wp_iald rfl (by decide) hv dX7_laySide_242 ?_
          refine wp_topi (fun y90 ey90 => ?_)
          have hs := hs y90 ey90
          refine wp_istore (ls' := [(0, .ref 0), (1, .int x1), (2, .int x2), (3, .int x3), (4, .int x4), (5, .int x5), (6, .int y89), (7, .int y90), (8, .int x8), (9, .int x9)]) [1, 2, 3, 4, 5, 6, 7, 0, 8, 9] dX7_laySide_243 rfl (by decide) ?_
          refine wp_iload 9 dX7_laySide_245 rfl ?_
          refine wp_iload 8 dX7_laySide_247 rfl ?_
          refine wp_iadd dX7_laySide_249 ?_
          refine wp_topi (fun y91 ey91 => ?_)
          have hs := hs y91 ey91
          refine wp_istore (ls' := [(0, .ref 0), (1, .int x1), (2, .int x2), (3, .int x3), (4, .int x4), (5, .int x5), (6, .int y89), (7, .int y90), (8, .int x8), (9, .int y91)]) [1, 2, 3, 4, 5, 6, 7, 8, 9, 0] dX7_laySide_250 rfl (by decide) ?_
          refine wp_goto (tgt := 41) dX7_laySide_252 (by decide) ?_
          refine wp_sub (ls' := [(0, .ref 0), (1, .int x1), (2, .int x2), (3, .int x3), (4, .int x4), (5, .int x5), (6, .int y89), (7, .int y90), (8, .int x8), (9, .int y91)]) [0, 1, 2, 3, 4, 5, 6, 7, 8, 9] rfl ?_
          exact ih _ _ _ _ _ hs
        · have hs := hs.2 c86
          refine wp_iload_n 3 dX7_laySide_71 rfl ?_
          refine wp_iload 10 dX7_laySide_72 rfl ?_
          refine wp_cSi (As := [.int x3, .int y85]) (st := []) (mw_X7_has  hs) gX7_laySide_X7_has rfl hy_X7_has rfl (by decide) (by decide) (Nat.le_of_ble_eq_true rfl) rfl dX7_laySide_74 (fun v93 M92 hs => ?_)
          refine wp_if_eq (tgt := 104) dX7_laySide_77 (by decide) (fun c94 => ?_) (fun c94 => ?_)
          · have hs := hs.1 c94
            refine wp_iconst (v := (nI 0)) dX7_laySide_104 (by decide) ?_
            refine wp_istore (ls' := [(0, .ref 0), (1, .int x1), (2, .int x2), (3, .int x3), (4, .int x4), (5, .int x5), (6, .int x6), (7, .int x7), (8, .int x8), (9, .int x9), (10, .int y85), (11, .int (nI 0))]) [1, 2, 3, 4, 5, 6, 7, 8, 9, 10, 11, 0] dX7_laySide_105 rfl (by decide) ?_
            refine wp_sub (ls' := [(0, .ref 0), (1, .int x1), (2, .int x2), (3, .int x3), (4, .int x4), (5, .int x5), (6, .int x6), (7, .int x7), (8, .int x8), (9, .int x9), (11, .int (nI 0))]) [0, 1, 2, 3, 4, 5, 6, 7, 8, 9, 11] rfl ?_
            refine lp_X7_laySide_107 (K := fun y95 M96 => (vp_in ((M96 0 10) - (nI 1)) 80 ∧ ∀ y97 : Int32, y97 = (M96 5 ((M96 0 10) - (nI 1)).toNatClampNeg) → (vp_in ((M96 0 10) - (nI 1)) 80 ∧ ∀ y98 : Int32, y98 = (M96 6 ((M96 0 10) - (nI 1)).toNatClampNeg) → ∀ y99 : Int32, y99 = (x9 + x8) → w_X7_laySide_41 n x1 x2 x3 x4 x5 y97 y98 x8 y99 M96 K))) (fun y95 M96 hs => ?_) FU _ _ hs
            refine wp_aload_n 0 dX7_laySide_219 rfl ?_
            refine wp_get (v := .ref 5) dX7_laySide_220 rfl (by decide) rfl in_X7_laySide_X7 7 (by decide) fl_X7_laySide_22 rfl rfl ?_
            refine wp_aload_n 0 dX7_laySide_223 rfl ?_
            refine wp_get (v := .int (M96 0 10)) dX7_laySide_224 rfl (by decide) rfl in_X7_laySide_X7 10 (by decide) fl_X7_laySide_56 rfl rfl ?_
            refine wp_iconst (v := (nI 1)) dX7_laySide_227 (by decide) ?_
            refine wp_isub dX7_laySide_228 ?_
            have hv := hs.1
            have hs := hs.2
            refine wp_iald rfl (by decide) hv dX7_laySide_229 ?_
            refine wp_topi (fun y97 ey97 => ?_)
            have hs := hs y97 ey97
            refine wp_istore (ls' := [(0, .ref 0), (1, .int x1), (2, .int x2), (3, .int x3), (4, .int x4), (5, .int x5), (6, .int y97), (8, .int x8), (9, .int x9)]) [1, 2, 3, 4, 5, 6, 0, 7, 8] dX7_laySide_230 rfl (by decide) ?_
            refine wp_aload_n 0 dX7_laySide_232 rfl ?_
            refine wp_get (v := .ref 6) dX7_laySide_233 rfl (by decide) rfl in_X7_laySide_X7 8 (by decide) fl_X7_laySide_25 rfl rfl ?_
            refine wp_aload_n 0 dX7_laySide_236 rfl ?_
            refine wp_get (v := .int (M96 0 10)) dX7_laySide_237 rfl (by decide) rfl in_X7_laySide_X7 10 (by decide) fl_X7_laySide_56 rfl rfl ?_
            refine wp_iconst (v := (nI 1)) dX7_laySide_240 (by decide) ?_
            refine wp_isub dX7_laySide_241 ?_
            have hv := hs.1
            have hs := hs.2
            refine wp_iald rfl (by decide) hv dX7_laySide_242 ?_
            refine wp_topi (fun y98 ey98 => ?_)
            have hs := hs y98 ey98
            refine wp_istore (ls' := [(0, .ref 0), (1, .int x1), (2, .int x2), (3, .int x3), (4, .int x4), (5, .int x5), (6, .int y97), (7, .int y98), (8, .int x8), (9, .int x9)]) [1, 2, 3, 4, 5, 6, 7, 0, 8, 9] dX7_laySide_243 rfl (by decide) ?_
            refine wp_iload 9 dX7_laySide_245 rfl ?_
            refine wp_iload 8 dX7_laySide_247 rfl ?_
            refine wp_iadd dX7_laySide_249 ?_
            refine wp_topi (fun y99 ey99 => ?_)
            have hs := hs y99 ey99
            refine wp_istore (ls' := [(0, .ref 0), (1, .int x1), (2, .int x2), (3, .int x3), (4, .int x4), (5, .int x5), (6, .int y97), (7, .int y98), (8, .int x8), (9, .int y99)]) [1, 2, 3, 4, 5, 6, 7, 8, 9, 0] dX7_laySide_250 rfl (by decide) ?_
            refine wp_goto (tgt := 41) dX7_laySide_252 (by decide) ?_
            refine wp_sub (ls' := [(0, .ref 0), (1, .int x1), (2, .int x2), (3, .int x3), (4, .int x4), (5, .int x5), (6, .int y97), (7, .int y98), (8, .int x8), (9, .int y99)]) [0, 1, 2, 3, 4, 5, 6, 7, 8, 9] rfl ?_
            exact ih _ _ _ _ _ hs
          · have hs := hs.2 c94
            refine wp_iload 5 dX7_laySide_80 rfl ?_
            refine wp_aload_n 0 dX7_laySide_82 rfl ?_
            refine wp_iload 10 dX7_laySide_83 rfl ?_
            refine wp_iload 4 dX7_laySide_85 rfl ?_
            refine wp_cVi (As := [.int y85, .int x4]) (st := [.int x5]) (mw_X7_isUp  hs) gX7_laySide_X7_isUp rfl hy_X7_isUp rfl rfl (by decide) rfl (by decide) (by decide) (Nat.le_of_ble_eq_true rfl) rfl dX7_laySide_87 (fun v101 M100 hs => ?_)
            refine wp_iload_n 2 dX7_laySide_90 rfl ?_
            refine wp_icmp_ne (tgt := 98) dX7_laySide_91 (by decide) (fun c102 => ?_) (fun c102 => ?_)
            · have hs := hs.1 c102
              refine wp_iconst (v := (nI 3)) dX7_laySide_98 (by decide) ?_
              refine wp_iadd dX7_laySide_99 ?_
              refine wp_iconst (v := (nI 4)) dX7_laySide_100 (by decide) ?_
              refine wp_irem dX7_laySide_101 (by decide) ?_
              refine wp_topi (fun y103 ey103 => ?_)
              have hs := hs y103 ey103
              refine wp_istore (ls' := [(0, .ref 0), (1, .int x1), (2, .int x2), (3, .int x3), (4, .int x4), (5, .int y103), (6, .int x6), (7, .int x7), (8, .int x8), (9, .int x9), (10, .int y85)]) [1, 2, 3, 4, 5, 0, 6, 7, 8, 9, 10] dX7_laySide_102 rfl (by decide) ?_
              refine wp_iconst (v := (nI 0)) dX7_laySide_104 (by decide) ?_
              refine wp_istore (ls' := [(0, .ref 0), (1, .int x1), (2, .int x2), (3, .int x3), (4, .int x4), (5, .int y103), (6, .int x6), (7, .int x7), (8, .int x8), (9, .int x9), (10, .int y85), (11, .int (nI 0))]) [1, 2, 3, 4, 5, 6, 7, 8, 9, 10, 11, 0] dX7_laySide_105 rfl (by decide) ?_
              refine wp_sub (ls' := [(0, .ref 0), (1, .int x1), (2, .int x2), (3, .int x3), (4, .int x4), (5, .int y103), (6, .int x6), (7, .int x7), (8, .int x8), (9, .int x9), (11, .int (nI 0))]) [0, 1, 2, 3, 4, 5, 6, 7, 8, 9, 11] rfl ?_
              refine lp_X7_laySide_107 (K := fun y104 M105 => (vp_in ((M105 0 10) - (nI 1)) 80 ∧ ∀ y106 : Int32, y106 = (M105 5 ((M105 0 10) - (nI 1)).toNatClampNeg) → (vp_in ((M105 0 10) - (nI 1)) 80 ∧ ∀ y107 : Int32, y107 = (M105 6 ((M105 0 10) - (nI 1)).toNatClampNeg) → ∀ y108 : Int32, y108 = (x9 + x8) → w_X7_laySide_41 n x1 x2 x3 x4 y103 y106 y107 x8 y108 M105 K))) (fun y104 M105 hs => ?_) FU _ _ hs
              refine wp_aload_n 0 dX7_laySide_219 rfl ?_
              refine wp_get (v := .ref 5) dX7_laySide_220 rfl (by decide) rfl in_X7_laySide_X7 7 (by decide) fl_X7_laySide_22 rfl rfl ?_
              refine wp_aload_n 0 dX7_laySide_223 rfl ?_
              refine wp_get (v := .int (M105 0 10)) dX7_laySide_224 rfl (by decide) rfl in_X7_laySide_X7 10 (by decide) fl_X7_laySide_56 rfl rfl ?_
              refine wp_iconst (v := (nI 1)) dX7_laySide_227 (by decide) ?_
              refine wp_isub dX7_laySide_228 ?_
              have hv := hs.1
              have hs := hs.2
              refine wp_iald rfl (by decide) hv dX7_laySide_229 ?_
              refine wp_topi (fun y106 ey106 => ?_)
              have hs := hs y106 ey106
              refine wp_istore (ls' := [(0, .ref 0), (1, .int x1), (2, .int x2), (3, .int x3), (4, .int x4), (5, .int y103), (6, .int y106), (8, .int x8), (9, .int x9)]) [1, 2, 3, 4, 5, 6, 0, 7, 8] dX7_laySide_230 rfl (by decide) ?_
              refine wp_aload_n 0 dX7_laySide_232 rfl ?_
              refine wp_get (v := .ref 6) dX7_laySide_233 rfl (by decide) rfl in_X7_laySide_X7 8 (by decide) fl_X7_laySide_25 rfl rfl ?_
              refine wp_aload_n 0 dX7_laySide_236 rfl ?_
              refine wp_get (v := .int (M105 0 10)) dX7_laySide_237 rfl (by decide) rfl in_X7_laySide_X7 10 (by decide) fl_X7_laySide_56 rfl rfl ?_
              refine wp_iconst (v := (nI 1)) dX7_laySide_240 (by decide) ?_
              refine wp_isub dX7_laySide_241 ?_
              have hv := hs.1
              have hs := hs.2
              refine wp_iald rfl (by decide) hv dX7_laySide_242 ?_
              refine wp_topi (fun y107 ey107 => ?_)
              have hs := hs y107 ey107
              refine wp_istore (ls' := [(0, .ref 0), (1, .int x1), (2, .int x2), (3, .int x3), (4, .int x4), (5, .int y103), (6, .int y106), (7, .int y107), (8, .int x8), (9, .int x9)]) [1, 2, 3, 4, 5, 6, 7, 0, 8, 9] dX7_laySide_243 rfl (by decide) ?_
              refine wp_iload 9 dX7_laySide_245 rfl ?_
              refine wp_iload 8 dX7_laySide_247 rfl ?_
              refine wp_iadd dX7_laySide_249 ?_
              refine wp_topi (fun y108 ey108 => ?_)
              have hs := hs y108 ey108
              refine wp_istore (ls' := [(0, .ref 0), (1, .int x1), (2, .int x2), (3, .int x3), (4, .int x4), (5, .int y103), (6, .int y106), (7, .int y107), (8, .int x8), (9, .int y108)]) [1, 2, 3, 4, 5, 6, 7, 8, 9, 0] dX7_laySide_250 rfl (by decide) ?_
              refine wp_goto (tgt := 41) dX7_laySide_252 (by decide) ?_
              refine wp_sub (ls' := [(0, .ref 0), (1, .int x1), (2, .int x2), (3, .int x3), (4, .int x4), (5, .int y103), (6, .int y106), (7, .int y107), (8, .int x8), (9, .int y108)]) [0, 1, 2, 3, 4, 5, 6, 7, 8, 9] rfl ?_
              exact ih _ _ _ _ _ hs
            · have hs := hs.2 c102
              refine wp_iconst (v := (nI 1)) dX7_laySide_94 (by decide) ?_
              refine wp_goto (tgt := 99) dX7_laySide_95 (by decide) ?_
              refine wp_iadd dX7_laySide_99 ?_
              refine wp_iconst (v := (nI 4)) dX7_laySide_100 (by decide) ?_
              refine wp_irem dX7_laySide_101 (by decide) ?_
              refine wp_topi (fun y109 ey109 => ?_)
              have hs := hs y109 ey109
              refine wp_istore (ls' := [(0, .ref 0), (1, .int x1), (2, .int x2), (3, .int x3), (4, .int x4), (5, .int y109), (6, .int x6), (7, .int x7), (8, .int x8), (9, .int x9), (10, .int y85)]) [1, 2, 3, 4, 5, 0, 6, 7, 8, 9, 10] dX7_laySide_102 rfl (by decide) ?_
              refine wp_iconst (v := (nI 0)) dX7_laySide_104 (by decide) ?_
              refine wp_istore (ls' := [(0, .ref 0), (1, .int x1), (2, .int x2), (3, .int x3), (4, .int x4), (5, .int y109), (6, .int x6), (7, .int x7), (8, .int x8), (9, .int x9), (10, .int y85), (11, .int (nI 0))]) [1, 2, 3, 4, 5, 6, 7, 8, 9, 10, 11, 0] dX7_laySide_105 rfl (by decide) ?_
              refine wp_sub (ls' := [(0, .ref 0), (1, .int x1), (2, .int x2), (3, .int x3), (4, .int x4), (5, .int y109), (6, .int x6), (7, .int x7), (8, .int x8), (9, .int x9), (11, .int (nI 0))]) [0, 1, 2, 3, 4, 5, 6, 7, 8, 9, 11] rfl ?_
              refine lp_X7_laySide_107 (K := fun y110 M111 => (vp_in ((M111 0 10) - (nI 1)) 80 ∧ ∀ y112 : Int32, y112 = (M111 5 ((M111 0 10) - (nI 1)).toNatClampNeg) → (vp_in ((M111 0 10) - (nI 1)) 80 ∧ ∀ y113 : Int32, y113 = (M111 6 ((M111 0 10) - (nI 1)).toNatClampNeg) → ∀ y114 : Int32, y114 = (x9 + x8) → w_X7_laySide_41 n x1 x2 x3 x4 y109 y112 y113 x8 y114 M111 K))) (fun y110 M111 hs => ?_) FU _ _ hs
              refine wp_aload_n 0 dX7_laySide_219 rfl ?_
              refine wp_get (v := .ref 5) dX7_laySide_220 rfl (by decide) rfl in_X7_laySide_X7 7 (by decide) fl_X7_laySide_22 rfl rfl ?_
              refine wp_aload_n 0 dX7_laySide_223 rfl ?_
              refine wp_get (v := .int (M111 0 10)) dX7_laySide_224 rfl (by decide) rfl in_X7_laySide_X7 10 (by decide) fl_X7_laySide_56 rfl rfl ?_
              refine wp_iconst (v := (nI 1)) dX7_laySide_227 (by decide) ?_
              refine wp_isub dX7_laySide_228 ?_
              have hv := hs.1
              have hs := hs.2
              refine wp_iald rfl (by decide) hv dX7_laySide_229 ?_
              refine wp_topi (fun y112 ey112 => ?_)
              have hs := hs y112 ey112
              refine wp_istore (ls' := [(0, .ref 0), (1, .int x1), (2, .int x2), (3, .int x3), (4, .int x4), (5, .int y109), (6, .int y112), (8, .int x8), (9, .int x9)]) [1, 2, 3, 4, 5, 6, 0, 7, 8] dX7_laySide_230 rfl (by decide) ?_
              refine wp_aload_n 0 dX7_laySide_232 rfl ?_
              refine wp_get (v := .ref 6) dX7_laySide_233 rfl (by decide) rfl in_X7_laySide_X7 8 (by decide) fl_X7_laySide_25 rfl rfl ?_
              refine wp_aload_n 0 dX7_laySide_236 rfl ?_
              refine wp_get (v := .int (M111 0 10)) dX7_laySide_237 rfl (by decide) rfl in_X7_laySide_X7 10 (by decide) fl_X7_laySide_56 rfl rfl ?_
              refine wp_iconst (v := (nI 1)) dX7_laySide_240 (by decide) ?_
              refine wp_isub dX7_laySide_241 ?_
              have hv := hs.1
              have hs := hs.2
              refine wp_iald rfl (by decide) hv dX7_laySide_242 ?_
              refine wp_topi (fun y113 ey113 => ?_)
              have hs := hs y113 ey113
              refine wp_istore (ls' := [(0, .ref 0), (1, .int x1), (2, .int x2), (3, .int x3), (4, .int x4), (5, .int y109), (6, .int y112), (7, .int y113), (8, .int x8), (9, .int x9)]) [1, 2, 3, 4, 5, 6, 7, 0, 8, 9] dX7_laySide_243 rfl (by decide) ?_
              refine wp_iload 9 dX7_laySide_245 rfl ?_
              refine wp_iload 8 dX7_laySide_247 rfl ?_
              refine wp_iadd dX7_laySide_249 ?_
              refine wp_topi (fun y114 ey114 => ?_)
              have hs := hs y114 ey114
              refine wp_istore (ls' := [(0, .ref 0), (1, .int x1), (2, .int x2), (3, .int x3), (4, .int x4), (5, .int y109), (6, .int y112), (7, .int y113), (8, .int x8), (9, .int y114)]) [1, 2, 3, 4, 5, 6, 7, 8, 9, 0] dX7_laySide_250 rfl (by decide) ?_
              refine wp_goto (tgt := 41) dX7_laySide_252 (by decide) ?_
              refine wp_sub (ls' := [(0, .ref 0), (1, .int x1), (2, .int x2), (3, .int x3), (4, .int x4), (5, .int y109), (6, .int y112), (7, .int y113), (8, .int x8), (9, .int y114)]) [0, 1, 2, 3, 4, 5, 6, 7, 8, 9] rfl ?_
              exact ih _ _ _ _ _ hs
def w_X7_laySide (a : Int32) (b : Int32) (c : Int32) (d : Int32) (M : Nat → Nat → Int32) (Q : (Nat → Nat → Int32) → Prop) : Prop := ((b = 0 → ((b = 0 → ((b = 0 → w_X7_laySide_41 FU a b c d (nI 2) (nI 0) (nI 0) (-1 : Int32) a M (fun y115 y116 y117 y118 M119 => Q M119)) ∧ (¬ b = 0 → ∀ y120 : Int32, y120 = (a + (nI 1)) → w_X7_laySide_41 FU a b c d (nI 2) (nI 0) (nI 0) (-1 : Int32) y120 M (fun y121 y122 y123 y124 M125 => Q M125)))) ∧ (¬ b = 0 → ((b = 0 → w_X7_laySide_41 FU a b c d (nI 2) (nI 0) (nI 0) (nI 1) a M (fun y127 y128 y129 y130 M131 => Q M131)) ∧ (¬ b = 0 → ∀ y132 : Int32, y132 = (a + (nI 1)) → w_X7_laySide_41 FU a b c d (nI 2) (nI 0) (nI 0) (nI 1) y132 M (fun y133 y134 y135 y136 M137 => Q M137)))))) ∧ (¬ b = 0 → ((b = 0 → ((b = 0 → w_X7_laySide_41 FU a b c d (nI 0) (nI 0) (nI 0) (-1 : Int32) a M (fun y140 y141 y142 y143 M144 => Q M144)) ∧ (¬ b = 0 → ∀ y145 : Int32, y145 = (a + (nI 1)) → w_X7_laySide_41 FU a b c d (nI 0) (nI 0) (nI 0) (-1 : Int32) y145 M (fun y146 y147 y148 y149 M150 => Q M150)))) ∧ (¬ b = 0 → ((b = 0 → w_X7_laySide_41 FU a b c d (nI 0) (nI 0) (nI 0) (nI 1) a M (fun y152 y153 y154 y155 M156 => Q M156)) ∧ (¬ b = 0 → ∀ y157 : Int32, y157 = (a + (nI 1)) → w_X7_laySide_41 FU a b c d (nI 0) (nI 0) (nI 0) (nI 1) y157 M (fun y158 y159 y160 y161 M162 => Q M162)))))))
set_option maxHeartbeats 4000000 in
set_option maxRecDepth 100000 in
theorem mw_X7_laySide {E : EN} {a : Int32} {b : Int32} {c : Int32} {d : Int32} {M : Nat → Nat → Int32} {Q : (Nat → Nat → Int32) → Prop} (hs : w_X7_laySide a b c d M Q) : MW E iX7_laySide 3 0 0 false [.ref 0, .int a, .int b, .int c, .int d] σM 10 M (qV σM 10 Q) := by
  refine mw_intro (ls := [(0, .ref 0), (1, .int a), (2, .int b), (3, .int c), (4, .int d)]) rfl (by decide +kernel) rfl rfl (Nat.le_of_ble_eq_true rfl) ?_
  have hQ : ∀ M, Q M → (qV σM 10 Q) none σM 10 M := fun _ h => ⟨rfl, rfl, rfl, h⟩
  generalize (qV σM 10 Q) = Qf at hQ ⊢
  unfold w_X7_laySide at hs
  refine wp_iload_n 2 dX7_laySide_0 rfl ?_
  refine wp_if_eq (tgt := 8) dX7_laySide_1 (by decide) (fun c1 => ?_) (fun c1 => ?_)
  · have hs := hs.1 c1
    refine wp_iconst (v := (nI 2)) dX7_laySide_8 (by decide) ?_
    refine wp_istore (ls' := [(0, .ref 0), (1, .int a), (2, .int b), (3, .int c), (4, .int d), (5, .int (nI 2))]) [1, 2, 3, 4, 5, 0] dX7_laySide_9 rfl (by decide) ?_
    refine wp_iconst (v := (nI 0)) dX7_laySide_11 (by decide) ?_
    refine wp_istore (ls' := [(0, .ref 0), (1, .int a), (2, .int b), (3, .int c), (4, .int d), (5, .int (nI 2)), (6, .int (nI 0))]) [1, 2, 3, 4, 5, 6, 0] dX7_laySide_12 rfl (by decide) ?_
    refine wp_iconst (v := (nI 0)) dX7_laySide_14 (by decide) ?_
    refine wp_istore (ls' := [(0, .ref 0), (1, .int a), (2, .int b), (3, .int c), (4, .int d), (5, .int (nI 2)), (6, .int (nI 0)), (7, .int (nI 0))]) [1, 2, 3, 4, 5, 6, 7, 0] dX7_laySide_15 rfl (by decide) ?_
    refine wp_iload_n 2 dX7_laySide_17 rfl ?_
    refine wp_if_eq (tgt := 25) dX7_laySide_18 (by decide) (fun c2 => ?_) (fun c2 => ?_)
    · have hs := hs.1 c2
      refine wp_iconst (v := (-1 : Int32)) dX7_laySide_25 (by decide) ?_
      refine wp_istore (ls' := [(0, .ref 0), (1, .int a), (2, .int b), (3, .int c), (4, .int d), (5, .int (nI 2)), (6, .int (nI 0)), (7, .int (nI 0)), (8, .int (-1 : Int32))]) [1, 2, 3, 4, 5, 6, 7, 8, 0] dX7_laySide_26 rfl (by decide) ?_
      refine wp_iload_n 2 dX7_laySide_28 rfl ?_
      refine wp_if_eq (tgt := 38) dX7_laySide_29 (by decide) (fun c3 => ?_) (fun c3 => ?_)
      · have hs := hs.1 c3
        refine wp_iload_n 1 dX7_laySide_38 rfl ?_
        refine wp_istore (ls' := [(0, .ref 0), (1, .int a), (2, .int b), (3, .int c), (4, .int d), (5, .int (nI 2)), (6, .int (nI 0)), (7, .int (nI 0)), (8, .int (-1 : Int32)), (9, .int a)]) [1, 2, 3, 4, 5, 6, 7, 8, 9, 0] dX7_laySide_39 rfl (by decide) ?_
        refine wp_sub (ls' := [(0, .ref 0), (1, .int a), (2, .int b), (3, .int c), (4, .int d), (5, .int (nI 2)), (6, .int (nI 0)), (7, .int (nI 0)), (8, .int (-1 : Int32)), (9, .int a)]) [0, 1, 2, 3, 4, 5, 6, 7, 8, 9] rfl ?_
        refine lp_X7_laySide_41 (K := fun y115 y116 y117 y118 M119 => Q M119) (fun y115 y116 y117 y118 M119 hs => ?_) FU _ _ _ _ _ hs
        exact wp_return rfl dX7_laySide_255 (hQ _ hs)
      · have hs := hs.2 c3
        refine wp_iload_n 1 dX7_laySide_32 rfl ?_
        refine wp_iconst (v := (nI 1)) dX7_laySide_33 (by decide) ?_
        refine wp_iadd dX7_laySide_34 ?_
        refine wp_goto (tgt := 39) dX7_laySide_35 (by decide) ?_
        refine wp_topi (fun y120 ey120 => ?_)
        have hs := hs y120 ey120
        refine wp_istore (ls' := [(0, .ref 0), (1, .int a), (2, .int b), (3, .int c), (4, .int d), (5, .int (nI 2)), (6, .int (nI 0)), (7, .int (nI 0)), (8, .int (-1 : Int32)), (9, .int y120)]) [1, 2, 3, 4, 5, 6, 7, 8, 9, 0] dX7_laySide_39 rfl (by decide) ?_
        refine wp_sub (ls' := [(0, .ref 0), (1, .int a), (2, .int b), (3, .int c), (4, .int d), (5, .int (nI 2)), (6, .int (nI 0)), (7, .int (nI 0)), (8, .int (-1 : Int32)), (9, .int y120)]) [0, 1, 2, 3, 4, 5, 6, 7, 8, 9] rfl ?_
        refine lp_X7_laySide_41 (K := fun y121 y122 y123 y124 M125 => Q M125) (fun y121 y122 y123 y124 M125 hs => ?_) FU _ _ _ _ _ hs
        exact wp_return rfl dX7_laySide_255 (hQ _ hs)
    · have hs := hs.2 c2
      refine wp_iconst (v := (nI 1)) dX7_laySide_21 (by decide) ?_
      refine wp_goto (tgt := 26) dX7_laySide_22 (by decide) ?_
      refine wp_istore (ls' := [(0, .ref 0), (1, .int a), (2, .int b), (3, .int c), (4, .int d), (5, .int (nI 2)), (6, .int (nI 0)), (7, .int (nI 0)), (8, .int (nI 1))]) [1, 2, 3, 4, 5, 6, 7, 8, 0] dX7_laySide_26 rfl (by decide) ?_
      refine wp_iload_n 2 dX7_laySide_28 rfl ?_
      refine wp_if_eq (tgt := 38) dX7_laySide_29 (by decide) (fun c126 => ?_) (fun c126 => ?_)
      · have hs := hs.1 c126
        refine wp_iload_n 1 dX7_laySide_38 rfl ?_
        refine wp_istore (ls' := [(0, .ref 0), (1, .int a), (2, .int b), (3, .int c), (4, .int d), (5, .int (nI 2)), (6, .int (nI 0)), (7, .int (nI 0)), (8, .int (nI 1)), (9, .int a)]) [1, 2, 3, 4, 5, 6, 7, 8, 9, 0] dX7_laySide_39 rfl (by decide) ?_
        refine wp_sub (ls' := [(0, .ref 0), (1, .int a), (2, .int b), (3, .int c), (4, .int d), (5, .int (nI 2)), (6, .int (nI 0)), (7, .int (nI 0)), (8, .int (nI 1)), (9, .int a)]) [0, 1, 2, 3, 4, 5, 6, 7, 8, 9] rfl ?_
        refine lp_X7_laySide_41 (K := fun y127 y128 y129 y130 M131 => Q M131) (fun y127 y128 y129 y130 M131 hs => ?_) FU _ _ _ _ _ hs
        exact wp_return rfl dX7_laySide_255 (hQ _ hs)
      · have hs := hs.2 c126
        refine wp_iload_n 1 dX7_laySide_32 rfl ?_
        refine wp_iconst (v := (nI 1)) dX7_laySide_33 (by decide) ?_
        refine wp_iadd dX7_laySide_34 ?_
        refine wp_goto (tgt := 39) dX7_laySide_35 (by decide) ?_
        refine wp_topi (fun y132 ey132 => ?_)
        have hs := hs y132 ey132
        refine wp_istore (ls' := [(0, .ref 0), (1, .int a), (2, .int b), (3, .int c), (4, .int d), (5, .int (nI 2)), (6, .int (nI 0)), (7, .int (nI 0)), (8, .int (nI 1)), (9, .int y132)]) [1, 2, 3, 4, 5, 6, 7, 8, 9, 0] dX7_laySide_39 rfl (by decide) ?_
        refine wp_sub (ls' := [(0, .ref 0), (1, .int a), (2, .int b), (3, .int c), (4, .int d), (5, .int (nI 2)), (6, .int (nI 0)), (7, .int (nI 0)), (8, .int (nI 1)), (9, .int y132)]) [0, 1, 2, 3, 4, 5, 6, 7, 8, 9] rfl ?_
        refine lp_X7_laySide_41 (K := fun y133 y134 y135 y136 M137 => Q M137) (fun y133 y134 y135 y136 M137 hs => ?_) FU _ _ _ _ _ hs
        exact wp_return rfl dX7_laySide_255 (hQ _ hs)
  · have hs := hs.2 c1
    refine wp_iconst (v := (nI 0)) dX7_laySide_4 (by decide) ?_
    refine wp_goto (tgt := 9) dX7_laySide_5 (by decide) ?_
    refine wp_istore (ls' := [(0, .ref 0), (1, .int a), (2, .int b), (3, .int c), (4, .int d), (5, .int (nI 0))]) [1, 2, 3, 4, 5, 0] dX7_laySide_9 rfl (by decide) ?_
    refine wp_iconst (v := (nI 0)) dX7_laySide_11 (by decide) ?_
    refine wp_istore (ls' := [(0, .ref 0), (1, .int a), (2, .int b), (3, .int c), (4, .int d), (5, .int (nI 0)), (6, .int (nI 0))]) [1, 2, 3, 4, 5, 6, 0] dX7_laySide_12 rfl (by decide) ?_
    refine wp_iconst (v := (nI 0)) dX7_laySide_14 (by decide) ?_
    refine wp_istore (ls' := [(0, .ref 0), (1, .int a), (2, .int b), (3, .int c), (4, .int d), (5, .int (nI 0)), (6, .int (nI 0)), (7, .int (nI 0))]) [1, 2, 3, 4, 5, 6, 7, 0] dX7_laySide_15 rfl (by decide) ?_
    refine wp_iload_n 2 dX7_laySide_17 rfl ?_
    refine wp_if_eq (tgt := 25) dX7_laySide_18 (by decide) (fun c138 => ?_) (fun c138 => ?_)
    · have hs := hs.1 c138
      refine wp_iconst (v := (-1 : Int32)) dX7_laySide_25 (by decide) ?_
      refine wp_istore (ls' := [(0, .ref 0), (1, .int a), (2, .int b), (3, .int c), (4, .int d), (5, .int (nI 0)), (6, .int (nI 0)), (7, .int (nI 0)), (8, .int (-1 : Int32))]) [1, 2, 3, 4, 5, 6, 7, 8, 0] dX7_laySide_26 rfl (by decide) ?_
      refine wp_iload_n 2 dX7_laySide_28 rfl ?_
      refine wp_if_eq (tgt := 38) dX7_laySide_29 (by decide) (fun c139 => ?_) (fun c139 => ?_)
      · have hs := hs.1 c139
        refine wp_iload_n 1 dX7_laySide_38 rfl ?_
        refine wp_istore (ls' := [(0, .ref 0), (1, .int a), (2, .int b), (3, .int c), (4, .int d), (5, .int (nI 0)), (6, .int (nI 0)), (7, .int (nI 0)), (8, .int (-1 : Int32)), (9, .int a)]) [1, 2, 3, 4, 5, 6, 7, 8, 9, 0] dX7_laySide_39 rfl (by decide) ?_
        refine wp_sub (ls' := [(0, .ref 0), (1, .int a), (2, .int b), (3, .int c), (4, .int d), (5, .int (nI 0)), (6, .int (nI 0)), (7, .int (nI 0)), (8, .int (-1 : Int32)), (9, .int a)]) [0, 1, 2, 3, 4, 5, 6, 7, 8, 9] rfl ?_
        refine lp_X7_laySide_41 (K := fun y140 y141 y142 y143 M144 => Q M144) (fun y140 y141 y142 y143 M144 hs => ?_) FU _ _ _ _ _ hs
        exact wp_return rfl dX7_laySide_255 (hQ _ hs)
      · have hs := hs.2 c139
        refine wp_iload_n 1 dX7_laySide_32 rfl ?_
        refine wp_iconst (v := (nI 1)) dX7_laySide_33 (by decide) ?_
        refine wp_iadd dX7_laySide_34 ?_
        refine wp_goto (tgt := 39) dX7_laySide_35 (by decide) ?_
        refine wp_topi (fun y145 ey145 => ?_)
        have hs := hs y145 ey145
        refine wp_istore (ls' := [(0, .ref 0), (1, .int a), (2, .int b), (3, .int c), (4, .int d), (5, .int (nI 0)), (6, .int (nI 0)), (7, .int (nI 0)), (8, .int (-1 : Int32)), (9, .int y145)]) [1, 2, 3, 4, 5, 6, 7, 8, 9, 0] dX7_laySide_39 rfl (by decide) ?_
        refine wp_sub (ls' := [(0, .ref 0), (1, .int a), (2, .int b), (3, .int c), (4, .int d), (5, .int (nI 0)), (6, .int (nI 0)), (7, .int (nI 0)), (8, .int (-1 : Int32)), (9, .int y145)]) [0, 1, 2, 3, 4, 5, 6, 7, 8, 9] rfl ?_
        refine lp_X7_laySide_41 (K := fun y146 y147 y148 y149 M150 => Q M150) (fun y146 y147 y148 y149 M150 hs => ?_) FU _ _ _ _ _ hs
        exact wp_return rfl dX7_laySide_255 (hQ _ hs)
    · have hs := hs.2 c138
      refine wp_iconst (v := (nI 1)) dX7_laySide_21 (by decide) ?_
      refine wp_goto (tgt := 26) dX7_laySide_22 (by decide) ?_
      refine wp_istore (ls' := [(0, .ref 0), (1, .int a), (2, .int b), (3, .int c), (4, .int d), (5, .int (nI 0)), (6, .int (nI 0)), (7, .int (nI 0)), (8, .int (nI 1))]) [1, 2, 3, 4, 5, 6, 7, 8, 0] dX7_laySide_26 rfl (by decide) ?_
      refine wp_iload_n 2 dX7_laySide_28 rfl ?_
      refine wp_if_eq (tgt := 38) dX7_laySide_29 (by decide) (fun c151 => ?_) (fun c151 => ?_)
      · have hs := hs.1 c151
        refine wp_iload_n 1 dX7_laySide_38 rfl ?_
        refine wp_istore (ls' := [(0, .ref 0), (1, .int a), (2, .int b), (3, .int c), (4, .int d), (5, .int (nI 0)), (6, .int (nI 0)), (7, .int (nI 0)), (8, .int (nI 1)), (9, .int a)]) [1, 2, 3, 4, 5, 6, 7, 8, 9, 0] dX7_laySide_39 rfl (by decide) ?_
        refine wp_sub (ls' := [(0, .ref 0), (1, .int a), (2, .int b), (3, .int c), (4, .int d), (5, .int (nI 0)), (6, .int (nI 0)), (7, .int (nI 0)), (8, .int (nI 1)), (9, .int a)]) [0, 1, 2, 3, 4, 5, 6, 7, 8, 9] rfl ?_
        refine lp_X7_laySide_41 (K := fun y152 y153 y154 y155 M156 => Q M156) (fun y152 y153 y154 y155 M156 hs => ?_) FU _ _ _ _ _ hs
        exact wp_return rfl dX7_laySide_255 (hQ _ hs)
      · have hs := hs.2 c151
        refine wp_iload_n 1 dX7_laySide_32 rfl ?_
        refine wp_iconst (v := (nI 1)) dX7_laySide_33 (by decide) ?_
        refine wp_iadd dX7_laySide_34 ?_
        refine wp_goto (tgt := 39) dX7_laySide_35 (by decide) ?_
        refine wp_topi (fun y157 ey157 => ?_)
        have hs := hs y157 ey157
        refine wp_istore (ls' := [(0, .ref 0), (1, .int a), (2, .int b), (3, .int c), (4, .int d), (5, .int (nI 0)), (6, .int (nI 0)), (7, .int (nI 0)), (8, .int (nI 1)), (9, .int y157)]) [1, 2, 3, 4, 5, 6, 7, 8, 9, 0] dX7_laySide_39 rfl (by decide) ?_
        refine wp_sub (ls' := [(0, .ref 0), (1, .int a), (2, .int b), (3, .int c), (4, .int d), (5, .int (nI 0)), (6, .int (nI 0)), (7, .int (nI 0)), (8, .int (nI 1)), (9, .int y157)]) [0, 1, 2, 3, 4, 5, 6, 7, 8, 9] rfl ?_
        refine lp_X7_laySide_41 (K := fun y158 y159 y160 y161 M162 => Q M162) (fun y158 y159 y160 y161 M162 hs => ?_) FU _ _ _ _ _ hs
        exact wp_return rfl dX7_laySide_255 (hQ _ hs)
abbrev iX7_lay : MI := (cX7_lay, 4, none, RX7, yX7_lay, wsX7_lay)
theorem hy_X7_lay : yX7_lay.cls = RX7 ∧ yX7_lay.cls ≠ "java/lang/invoke/MethodHandle" ∧ yX7_lay.cls ≠ "java/lang/invoke/VarHandle" ∧ (parseMethodDescriptor yX7_lay.desc).map (fun d => d.parameters.length) = some 3 := by decide +kernel
theorem in_X7_lay_X7 : ∀ w ∈ u_ws RX7 TX7 13, w ∈ wsX7_lay := by decide +kernel
theorem fl_X7_lay_56 : Cond.fieldLink RX7 56 (TX7 10).1 (TX7 10).2.1 (TX7 10).2.2.1 ∈ wsX7_lay := by decide +kernel
def w_X7_lay (a : Int32) (b : Int32) (c : Int32) (M : Nat → Nat → Int32) (Q : (Nat → Nat → Int32) → Prop) : Prop := ∀ M1 : Nat → Nat → Int32, M1 = um M 0 (upd (M 0) 10 (nI 0)) → w_X7_laySide a (nI 0) b c M1 (fun M2 => w_X7_laySide a (nI 1) b c M2 (fun M3 => Q M3))
set_option maxHeartbeats 4000000 in
set_option maxRecDepth 100000 in
theorem mw_X7_lay {E : EN} {a : Int32} {b : Int32} {c : Int32} {M : Nat → Nat → Int32} {Q : (Nat → Nat → Int32) → Prop} (hs : w_X7_lay a b c M Q) : MW E iX7_lay 4 0 0 false [.ref 0, .int a, .int b, .int c] σM 10 M (qV σM 10 Q) := by
  refine mw_intro (ls := [(0, .ref 0), (1, .int a), (2, .int b), (3, .int c)]) rfl (by decide +kernel) rfl rfl (Nat.le_of_ble_eq_true rfl) ?_
  have hQ : ∀ M, Q M → (qV σM 10 Q) none σM 10 M := fun _ h => ⟨rfl, rfl, rfl, h⟩
  generalize (qV σM 10 Q) = Qf at hQ ⊢
  unfold w_X7_lay at hs
  refine wp_aload_n 0 dX7_lay_0 rfl ?_
  refine wp_iconst (v := (nI 0)) dX7_lay_1 (by decide) ?_
  refine wp_put (ty := .int) tyX7 tyX7_ok nmX7 rfl (by decide) rfl in_X7_lay_X7 10 (by decide) fl_X7_lay_56 rfl rfl (by decide +kernel) rfl rfl dX7_lay_2 (fun M1 eM1 => ?_)
  have hs := hs M1 eM1
  refine wp_aload_n 0 dX7_lay_5 rfl ?_
  refine wp_iload_n 1 dX7_lay_6 rfl ?_
  refine wp_iconst (v := (nI 0)) dX7_lay_7 (by decide) ?_
  refine wp_iload_n 2 dX7_lay_8 rfl ?_
  refine wp_iload_n 3 dX7_lay_9 rfl ?_
  refine wp_cVv (As := [.int a, .int (nI 0), .int b, .int c]) (st := []) (mw_X7_laySide  hs) gX7_lay_X7_laySide rfl hy_X7_laySide rfl rfl (by decide) rfl (by decide) (by decide) (Nat.le_of_ble_eq_true rfl) rfl dX7_lay_10 (fun  M2 hs => ?_)
  refine wp_aload_n 0 dX7_lay_13 rfl ?_
  refine wp_iload_n 1 dX7_lay_14 rfl ?_
  refine wp_iconst (v := (nI 1)) dX7_lay_15 (by decide) ?_
  refine wp_iload_n 2 dX7_lay_16 rfl ?_
  refine wp_iload_n 3 dX7_lay_17 rfl ?_
  refine wp_cVv (As := [.int a, .int (nI 1), .int b, .int c]) (st := []) (mw_X7_laySide  hs) gX7_lay_X7_laySide rfl hy_X7_laySide rfl rfl (by decide) rfl (by decide) (by decide) (Nat.le_of_ble_eq_true rfl) rfl dX7_lay_18 (fun  M3 hs => ?_)
  exact wp_return rfl dX7_lay_21 (hQ _ hs)
abbrev iX7_swing : MI := (cX7_swing, 4, none, RX7, yX7_swing, wsX7_swing)
theorem hy_X7_swing : yX7_swing.cls = RX7 ∧ yX7_swing.cls ≠ "java/lang/invoke/MethodHandle" ∧ yX7_swing.cls ≠ "java/lang/invoke/VarHandle" ∧ (parseMethodDescriptor yX7_swing.desc).map (fun d => d.parameters.length) = some 1 := by decide +kernel
theorem in_X7_swing_X7 : ∀ w ∈ u_ws RX7 TX7 13, w ∈ wsX7_swing := by decide +kernel
theorem fl_X7_swing_22 : Cond.fieldLink RX7 22 (TX7 7).1 (TX7 7).2.1 (TX7 7).2.2.1 ∈ wsX7_swing := by decide +kernel
theorem fl_X7_swing_25 : Cond.fieldLink RX7 25 (TX7 8).1 (TX7 8).2.1 (TX7 8).2.2.1 ∈ wsX7_swing := by decide +kernel
theorem fl_X7_swing_28 : Cond.fieldLink RX7 28 (TX7 9).1 (TX7 9).2.1 (TX7 9).2.2.1 ∈ wsX7_swing := by decide +kernel
theorem fl_X7_swing_56 : Cond.fieldLink RX7 56 (TX7 10).1 (TX7 10).2.1 (TX7 10).2.2.1 ∈ wsX7_swing := by decide +kernel
def w_X7_swing_2 : Nat → Int32 → Int32 → (Nat → Nat → Int32) → (Int32 → (Nat → Nat → Int32) → Prop) → Prop
  | 0, _, _, _, _ => False
  | n + 1, x1, x2, M, K => (((M 0 10) ≤ x2 → K x2 M) ∧ (¬ (M 0 10) ≤ x2 → (vp_in x2 80 ∧ ((x1 < (M 7 x2.toNatClampNeg) → ∀ y3 : Int32, y3 = x2 + (nI 1) → w_X7_swing_2 n x1 y3 M K) ∧ (¬ x1 < (M 7 x2.toNatClampNeg) → (vp_in x2 80 ∧ ∀ y4 : Int32, y4 = (M 5 x2.toNatClampNeg) → (vp_in x2 80 ∧ (vp_in x2 80 ∧ ∀ M5 : Nat → Nat → Int32, M5 = um M 5 (upd (M 5) x2.toNatClampNeg (M 6 x2.toNatClampNeg)) → (vp_in x2 80 ∧ ∀ M6 : Nat → Nat → Int32, M6 = um M5 6 (upd (M5 6) x2.toNatClampNeg (-y4)) → ∀ y7 : Int32, y7 = x2 + (nI 1) → w_X7_swing_2 n x1 y7 M6 K)))))))))
set_option maxHeartbeats 4000000 in
set_option maxRecDepth 100000 in
theorem lp_X7_swing_2 {E : EN} {x1 : Int32} {Qf : PST} {K : Int32 → (Nat → Nat → Int32) → Prop} (hK : ∀ (z2 : Int32) (M : Nat → Nat → Int32), K z2 M → WP E iX7_swing 1 0 0 false 53 [] [] σM 10 M Qf) : ∀ (nn : Nat) (x2 : Int32) (M : Nat → Nat → Int32), w_X7_swing_2 nn x1 x2 M K → WP E iX7_swing 1 0 0 false 2 [(0, .ref 0), (1, .int x1), (2, .int x2)] [] σM 10 M Qf := by
  intro nn
  induction nn with
  | zero => intro x2 M hs; exact hs.elim
  | succ n ih =>
    intro x2 M hs
    unfold w_X7_swing_2 at hs
    refine wp_iload_n 2 dX7_swing_2 rfl ?_
    refine wp_aload_n 0 dX7_swing_3 rfl ?_
    refine wp_get (v := .int (M 0 10)) dX7_swing_4 rfl (by decide) rfl in_X7_swing_X7 10 (by decide) fl_X7_swing_56 rfl rfl ?_
    refine wp_icmp_ge (tgt := 53) dX7_swing_7 (by decide) (fun c1 => ?_) (fun c1 => ?_)
    · have hs := hs.1 c1
      refine wp_sub (ls' := []) [] rfl ?_
      exact hK _ _ hs
    · have hs := hs.2 c1
      refine wp_aload_n 0 dX7_swing_10 rfl ?_
      refine wp_get (v := .ref 7) dX7_swing_11 rfl (by decide) rfl in_X7_swing_X7 9 (by decide) fl_X7_swing_28 rfl rfl ?_
      refine wp_iload_n 2 dX7_swing_14 rfl ?_
      have hv := hs.1
      have hs := hs.2
      refine wp_iald rfl (by decide) hv dX7_swing_15 ?_
      refine wp_iload_n 1 dX7_swing_16 rfl ?_
      refine wp_icmp_gt (tgt := 47) dX7_swing_17 (by decide) (fun c2 => ?_) (fun c2 => ?_)
      · have hs := hs.1 c2
        obtain ⟨y3, ey3⟩ : ∃ y : Int32, y = x2 + (nI 1) := ⟨_, rfl⟩
        have hs := hs y3 ey3
        refine wp_iinc (v := y3) (ls' := [(0, .ref 0), (1, .int x1), (2, .int y3)]) 2 [1, 2, 0] dX7_swing_47 rfl (by rw [ey3]; rfl) rfl (by decide) ?_
        refine wp_goto (tgt := 2) dX7_swing_50 (by decide) ?_
        refine wp_sub (ls' := [(0, .ref 0), (1, .int x1), (2, .int y3)]) [0, 1, 2] rfl ?_
        exact ih _ _ hs
      · have hs := hs.2 c2
        refine wp_aload_n 0 dX7_swing_20 rfl ?_
        refine wp_get (v := .ref 5) dX7_swing_21 rfl (by decide) rfl in_X7_swing_X7 7 (by decide) fl_X7_swing_22 rfl rfl ?_
        refine wp_iload_n 2 dX7_swing_24 rfl ?_
        have hv := hs.1
        have hs := hs.2
        refine wp_iald rfl (by decide) hv dX7_swing_25 ?_
        refine wp_topi (fun y4 ey4 => ?_)
        have hs := hs y4 ey4
        refine wp_istore_n (ls' := [(0, .ref 0), (1, .int x1), (2, .int x2), (3, .int y4)]) [1, 2, 3, 0] dX7_swing_26 rfl (by decide) ?_
        refine wp_aload_n 0 dX7_swing_27 rfl ?_
        refine wp_get (v := .ref 5) dX7_swing_28 rfl (by decide) rfl in_X7_swing_X7 7 (by decide) fl_X7_swing_22 rfl rfl ?_
        refine wp_iload_n 2 dX7_swing_31 rfl ?_
        refine wp_aload_n 0 dX7_swing_32 rfl ?_
        refine wp_get (v := .ref 6) dX7_swing_33 rfl (by decide) rfl in_X7_swing_X7 8 (by decide) fl_X7_swing_25 rfl rfl ?_
        refine wp_iload_n 2 dX7_swing_36 rfl ?_
        have hv := hs.1
        have hs := hs.2
        refine wp_iald rfl (by decide) hv dX7_swing_37 ?_
        have hv := hs.1
        have hs := hs.2
        refine wp_iast rfl (by decide) hv dX7_swing_38 (fun M5 eM5 => ?_)
        have hs := hs M5 eM5
        refine wp_aload_n 0 dX7_swing_39 rfl ?_
        refine wp_get (v := .ref 6) dX7_swing_40 rfl (by decide) rfl in_X7_swing_X7 8 (by decide) fl_X7_swing_25 rfl rfl ?_
        refine wp_iload_n 2 dX7_swing_43 rfl ?_
        refine wp_iload_n 3 dX7_swing_44 rfl ?_
        refine wp_ineg dX7_swing_45 ?_
        have hv := hs.1
        have hs := hs.2
        refine wp_iast rfl (by decide) hv dX7_swing_46 (fun M6 eM6 => ?_)
        have hs := hs M6 eM6
        obtain ⟨y7, ey7⟩ : ∃ y : Int32, y = x2 + (nI 1) := ⟨_, rfl⟩
        have hs := hs y7 ey7
        refine wp_iinc (v := y7) (ls' := [(0, .ref 0), (1, .int x1), (2, .int y7), (3, .int y4)]) 2 [1, 2, 0, 3] dX7_swing_47 rfl (by rw [ey7]; rfl) rfl (by decide) ?_
        refine wp_goto (tgt := 2) dX7_swing_50 (by decide) ?_
        refine wp_sub (ls' := [(0, .ref 0), (1, .int x1), (2, .int y7)]) [0, 1, 2] rfl ?_
        exact ih _ _ hs
def w_X7_swing (a : Int32) (M : Nat → Nat → Int32) (Q : (Nat → Nat → Int32) → Prop) : Prop := w_X7_swing_2 FU a (nI 0) M (fun y8 M9 => Q M9)
set_option maxHeartbeats 4000000 in
set_option maxRecDepth 100000 in
theorem mw_X7_swing {E : EN} {a : Int32} {M : Nat → Nat → Int32} {Q : (Nat → Nat → Int32) → Prop} (hs : w_X7_swing a M Q) : MW E iX7_swing 1 0 0 false [.ref 0, .int a] σM 10 M (qV σM 10 Q) := by
  refine mw_intro (ls := [(0, .ref 0), (1, .int a)]) rfl (by decide +kernel) rfl rfl (Nat.le_of_ble_eq_true rfl) ?_
  have hQ : ∀ M, Q M → (qV σM 10 Q) none σM 10 M := fun _ h => ⟨rfl, rfl, rfl, h⟩
  generalize (qV σM 10 Q) = Qf at hQ ⊢
  unfold w_X7_swing at hs
  refine wp_iconst (v := (nI 0)) dX7_swing_0 (by decide) ?_
  refine wp_istore_n (ls' := [(0, .ref 0), (1, .int a), (2, .int (nI 0))]) [1, 2, 0] dX7_swing_1 rfl (by decide) ?_
  refine wp_sub (ls' := [(0, .ref 0), (1, .int a), (2, .int (nI 0))]) [0, 1, 2] rfl ?_
  refine lp_X7_swing_2 (K := fun y8 M9 => Q M9) (fun y8 M9 hs => ?_) FU _ _ hs
  exact wp_return rfl dX7_swing_53 (hQ _ hs)
abbrev iX7_strike : MI := (cX7_strike, 5, some .int, RX7, yX7_strike, wsX7_strike)
theorem hy_X7_strike : yX7_strike.cls = RX7 ∧ yX7_strike.cls ≠ "java/lang/invoke/MethodHandle" ∧ yX7_strike.cls ≠ "java/lang/invoke/VarHandle" ∧ (parseMethodDescriptor yX7_strike.desc).map (fun d => d.parameters.length) = some 1 := by decide +kernel
theorem in_X7_strike_X7 : ∀ w ∈ u_ws RX7 TX7 13, w ∈ wsX7_strike := by decide +kernel
theorem fl_X7_strike_7 : Cond.fieldLink RX7 7 (TX7 0).1 (TX7 0).2.1 (TX7 0).2.2.1 ∈ wsX7_strike := by decide +kernel
theorem fl_X7_strike_22 : Cond.fieldLink RX7 22 (TX7 7).1 (TX7 7).2.1 (TX7 7).2.2.1 ∈ wsX7_strike := by decide +kernel
theorem fl_X7_strike_25 : Cond.fieldLink RX7 25 (TX7 8).1 (TX7 8).2.1 (TX7 8).2.2.1 ∈ wsX7_strike := by decide +kernel
theorem fl_X7_strike_28 : Cond.fieldLink RX7 28 (TX7 9).1 (TX7 9).2.1 (TX7 9).2.2.1 ∈ wsX7_strike := by decide +kernel
theorem fl_X7_strike_56 : Cond.fieldLink RX7 56 (TX7 10).1 (TX7 10).2.1 (TX7 10).2.2.1 ∈ wsX7_strike := by decide +kernel
def w_X7_strike_4 : Nat → Int32 → Int32 → Int32 → (Nat → Nat → Int32) → (Int32 → Int32 → (Nat → Nat → Int32) → Prop) → Prop
  | 0, _, _, _, _, _ => False
  | n + 1, x1, x2, x3, M, K => (((M 0 10) ≤ x3 → K x2 x3 M) ∧ (¬ (M 0 10) ≤ x3 → ((x1 = 0 → (vp_in x3 80 ∧ w_X7_in (M 6 x3.toNatClampNeg) (-3 : Int32) (-1 : Int32) M (fun v4 M3 => ((v4 = 0 → (((nI 0) = 0 → ∀ y7 : Int32, y7 = (x2 ||| (nI 0)) → ∀ y8 : Int32, y8 = x3 + (nI 1) → w_X7_strike_4 n x1 y7 y8 M3 K) ∧ (¬ (nI 0) = 0 → (vp_in x3 80 ∧ ∀ y9 : Int32, y9 = (x2 ||| ((nI 1) <<< ((M3 7 x3.toNatClampNeg) &&& 31))) → ∀ y10 : Int32, y10 = x3 + (nI 1) → w_X7_strike_4 n x1 y9 y10 M3 K)))) ∧ (¬ v4 = 0 → (vp_in x3 80 ∧ w_X7_in (M3 5 x3.toNatClampNeg) (nI 1) (nI 3) M3 (fun v12 M11 => ((v12 = 0 → (((nI 0) = 0 → ∀ y15 : Int32, y15 = (x2 ||| (nI 0)) → ∀ y16 : Int32, y16 = x3 + (nI 1) → w_X7_strike_4 n x1 y15 y16 M11 K) ∧ (¬ (nI 0) = 0 → (vp_in x3 80 ∧ ∀ y17 : Int32, y17 = (x2 ||| ((nI 1) <<< ((M11 7 x3.toNatClampNeg) &&& 31))) → ∀ y18 : Int32, y18 = x3 + (nI 1) → w_X7_strike_4 n x1 y17 y18 M11 K)))) ∧ (¬ v12 = 0 → (((nI 1) = 0 → ∀ y20 : Int32, y20 = (x2 ||| (nI 0)) → ∀ y21 : Int32, y21 = x3 + (nI 1) → w_X7_strike_4 n x1 y20 y21 M11 K) ∧ (¬ (nI 1) = 0 → (vp_in x3 80 ∧ ∀ y22 : Int32, y22 = (x2 ||| ((nI 1) <<< ((M11 7 x3.toNatClampNeg) &&& 31))) → ∀ y23 : Int32, y23 = x3 + (nI 1) → w_X7_strike_4 n x1 y22 y23 M11 K)))))))))))) ∧ (¬ x1 = 0 → (vp_in x3 80 ∧ w_X7_in (M 6 x3.toNatClampNeg) (nI 1) (M 1 18) M (fun v25 M24 => ((v25 = 0 → (((nI 0) = 0 → ∀ y28 : Int32, y28 = (x2 ||| (nI 0)) → ∀ y29 : Int32, y29 = x3 + (nI 1) → w_X7_strike_4 n x1 y28 y29 M24 K) ∧ (¬ (nI 0) = 0 → (vp_in x3 80 ∧ ∀ y30 : Int32, y30 = (x2 ||| ((nI 1) <<< ((M24 7 x3.toNatClampNeg) &&& 31))) → ∀ y31 : Int32, y31 = x3 + (nI 1) → w_X7_strike_4 n x1 y30 y31 M24 K)))) ∧ (¬ v25 = 0 → (vp_in x3 80 ∧ (vp_in x3 80 ∧ (((nI 3) ≤ (M24 6 x3.toNatClampNeg) → w_X7_in (M24 5 x3.toNatClampNeg) (nI 1) ((nI 1) + (M24 1 19)) M24 (fun v34 M33 => ((v34 = 0 → (((nI 0) = 0 → ∀ y37 : Int32, y37 = (x2 ||| (nI 0)) → ∀ y38 : Int32, y38 = x3 + (nI 1) → w_X7_strike_4 n x1 y37 y38 M33 K) ∧ (¬ (nI 0) = 0 → (vp_in x3 80 ∧ ∀ y39 : Int32, y39 = (x2 ||| ((nI 1) <<< ((M33 7 x3.toNatClampNeg) &&& 31))) → ∀ y40 : Int32, y40 = x3 + (nI 1) → w_X7_strike_4 n x1 y39 y40 M33 K)))) ∧ (¬ v34 = 0 → (((nI 1) = 0 → ∀ y42 : Int32, y42 = (x2 ||| (nI 0)) → ∀ y43 : Int32, y43 = x3 + (nI 1) → w_X7_strike_4 n x1 y42 y43 M33 K) ∧ (¬ (nI 1) = 0 → (vp_in x3 80 ∧ ∀ y44 : Int32, y44 = (x2 ||| ((nI 1) <<< ((M33 7 x3.toNatClampNeg) &&& 31))) → ∀ y45 : Int32, y45 = x3 + (nI 1) → w_X7_strike_4 n x1 y44 y45 M33 K))))))) ∧ (¬ (nI 3) ≤ (M24 6 x3.toNatClampNeg) → w_X7_in (M24 5 x3.toNatClampNeg) (nI 1) (nI 1) M24 (fun v47 M46 => ((v47 = 0 → (((nI 0) = 0 → ∀ y50 : Int32, y50 = (x2 ||| (nI 0)) → ∀ y51 : Int32, y51 = x3 + (nI 1) → w_X7_strike_4 n x1 y50 y51 M46 K) ∧ (¬ (nI 0) = 0 → (vp_in x3 80 ∧ ∀ y52 : Int32, y52 = (x2 ||| ((nI 1) <<< ((M46 7 x3.toNatClampNeg) &&& 31))) → ∀ y53 : Int32, y53 = x3 + (nI 1) → w_X7_strike_4 n x1 y52 y53 M46 K)))) ∧ (¬ v47 = 0 → (((nI 1) = 0 → ∀ y55 : Int32, y55 = (x2 ||| (nI 0)) → ∀ y56 : Int32, y56 = x3 + (nI 1) → w_X7_strike_4 n x1 y55 y56 M46 K) ∧ (¬ (nI 1) = 0 → (vp_in x3 80 ∧ ∀ y57 : Int32, y57 = (x2 ||| ((nI 1) <<< ((M46 7 x3.toNatClampNeg) &&& 31))) → ∀ y58 : Int32, y58 = x3 + (nI 1) → w_X7_strike_4 n x1 y57 y58 M46 K))))))))))))))))))
set_option maxHeartbeats 4000000 in
set_option maxRecDepth 100000 in
theorem lp_X7_strike_4 {E : EN} {x1 : Int32} {Qf : PST} {K : Int32 → Int32 → (Nat → Nat → Int32) → Prop} (hK : ∀ (z2 : Int32) (z3 : Int32) (M : Nat → Nat → Int32), K z2 z3 M → WP E iX7_strike 2 0 0 false 142 [(2, .int z2)] [] σM 10 M Qf) : ∀ (nn : Nat) (x2 : Int32) (x3 : Int32) (M : Nat → Nat → Int32), w_X7_strike_4 nn x1 x2 x3 M K → WP E iX7_strike 2 0 0 false 4 [(0, .ref 0), (1, .int x1), (2, .int x2), (3, .int x3)] [] σM 10 M Qf := by
  intro nn
  induction nn with
  | zero => intro x2 x3 M hs; exact hs.elim
  | succ n ih =>
    intro x2 x3 M hs
    unfold w_X7_strike_4 at hs
    refine wp_iload_n 3 dX7_strike_4 rfl ?_
    refine wp_aload_n 0 dX7_strike_5 rfl ?_
    refine wp_get (v := .int (M 0 10)) dX7_strike_6 rfl (by decide) rfl in_X7_strike_X7 10 (by decide) fl_X7_strike_56 rfl rfl ?_
    refine wp_icmp_ge (tgt := 142) dX7_strike_9 (by decide) (fun c1 => ?_) (fun c1 => ?_)
    · have hs := hs.1 c1
      refine wp_sub (ls' := [(2, .int x2)]) [2] rfl ?_
      exact hK _ _ _ hs
    · have hs := hs.2 c1
      refine wp_iload_n 1 dX7_strike_12 rfl ?_
      refine wp_if_eq (tgt := 80) dX7_strike_13 (by decide) (fun c2 => ?_) (fun c2 => ?_)
      · have hs := hs.1 c2
        refine wp_aload_n 0 dX7_strike_80 rfl ?_
        refine wp_get (v := .ref 6) dX7_strike_81 rfl (by decide) rfl in_X7_strike_X7 8 (by decide) fl_X7_strike_25 rfl rfl ?_
        refine wp_iload_n 3 dX7_strike_84 rfl ?_
        have hv := hs.1
        have hs := hs.2
        refine wp_iald rfl (by decide) hv dX7_strike_85 ?_
        refine wp_bipush (v := (-3 : Int32)) dX7_strike_86 (by decide) ?_
        refine wp_iconst (v := (-1 : Int32)) dX7_strike_88 (by decide) ?_
        refine wp_cSi (As := [.int (M 6 x3.toNatClampNeg), .int (-3 : Int32), .int (-1 : Int32)]) (st := []) (mw_X7_in  hs) gX7_strike_X7_in rfl hy_X7_in rfl (by decide) (by decide) (Nat.le_of_ble_eq_true rfl) rfl dX7_strike_89 (fun v4 M3 hs => ?_)
        refine wp_if_eq (tgt := 113) dX7_strike_92 (by decide) (fun c5 => ?_) (fun c5 => ?_)
        · have hs := hs.1 c5
          refine wp_iconst (v := (nI 0)) dX7_strike_113 (by decide) ?_
          refine wp_istore (ls' := [(0, .ref 0), (1, .int x1), (2, .int x2), (3, .int x3), (4, .int (nI 0))]) [1, 2, 3, 4, 0] dX7_strike_114 rfl (by decide) ?_
          refine wp_iload_n 2 dX7_strike_116 rfl ?_
          refine wp_iload 4 dX7_strike_117 rfl ?_
          refine wp_if_eq (tgt := 133) dX7_strike_119 (by decide) (fun c6 => ?_) (fun c6 => ?_)
          · have hs := hs.1 c6
            refine wp_iconst (v := (nI 0)) dX7_strike_133 (by decide) ?_
            refine wp_ior dX7_strike_134 ?_
            refine wp_topi (fun y7 ey7 => ?_)
            have hs := hs y7 ey7
            refine wp_istore_n (ls' := [(0, .ref 0), (1, .int x1), (2, .int y7), (3, .int x3), (4, .int (nI 0))]) [1, 2, 0, 3, 4] dX7_strike_135 rfl (by decide) ?_
            obtain ⟨y8, ey8⟩ : ∃ y : Int32, y = x3 + (nI 1) := ⟨_, rfl⟩
            have hs := hs y8 ey8
            refine wp_iinc (v := y8) (ls' := [(0, .ref 0), (1, .int x1), (2, .int y7), (3, .int y8), (4, .int (nI 0))]) 3 [1, 2, 3, 0, 4] dX7_strike_136 rfl (by rw [ey8]; rfl) rfl (by decide) ?_
            refine wp_goto (tgt := 4) dX7_strike_139 (by decide) ?_
            refine wp_sub (ls' := [(0, .ref 0), (1, .int x1), (2, .int y7), (3, .int y8)]) [0, 1, 2, 3] rfl ?_
            exact ih _ _ _ hs
          · have hs := hs.2 c6
            refine wp_iconst (v := (nI 1)) dX7_strike_122 (by decide) ?_
            refine wp_aload_n 0 dX7_strike_123 rfl ?_
            refine wp_get (v := .ref 7) dX7_strike_124 rfl (by decide) rfl in_X7_strike_X7 9 (by decide) fl_X7_strike_28 rfl rfl ?_
            refine wp_iload_n 3 dX7_strike_127 rfl ?_
            have hv := hs.1
            have hs := hs.2
            refine wp_iald rfl (by decide) hv dX7_strike_128 ?_
            refine wp_ishl dX7_strike_129 ?_
            refine wp_goto (tgt := 134) dX7_strike_130 (by decide) ?_
            refine wp_ior dX7_strike_134 ?_
            refine wp_topi (fun y9 ey9 => ?_)
            have hs := hs y9 ey9
            refine wp_istore_n (ls' := [(0, .ref 0), (1, .int x1), (2, .int y9), (3, .int x3), (4, .int (nI 0))]) [1, 2, 0, 3, 4] dX7_strike_135 rfl (by decide) ?_
            obtain ⟨y10, ey10⟩ : ∃ y : Int32, y = x3 + (nI 1) := ⟨_, rfl⟩
            have hs := hs y10 ey10
            refine wp_iinc (v := y10) (ls' := [(0, .ref 0), (1, .int x1), (2, .int y9), (3, .int y10), (4, .int (nI 0))]) 3 [1, 2, 3, 0, 4] dX7_strike_136 rfl (by rw [ey10]; rfl) rfl (by decide) ?_
            refine wp_goto (tgt := 4) dX7_strike_139 (by decide) ?_
            refine wp_sub (ls' := [(0, .ref 0), (1, .int x1), (2, .int y9), (3, .int y10)]) [0, 1, 2, 3] rfl ?_
            exact ih _ _ _ hs
        · have hs := hs.2 c5
          refine wp_aload_n 0 dX7_strike_95 rfl ?_
          refine wp_get (v := .ref 5) dX7_strike_96 rfl (by decide) rfl in_X7_strike_X7 7 (by decide) fl_X7_strike_22 rfl rfl ?_
          refine wp_iload_n 3 dX7_strike_99 rfl ?_
          have hv := hs.1
          have hs := hs.2
          refine wp_iald rfl (by decide) hv dX7_strike_100 ?_
          refine wp_iconst (v := (nI 1)) dX7_strike_101 (by decide) ?_
          refine wp_iconst (v := (nI 3)) dX7_strike_102 (by decide) ?_
          refine wp_cSi (As := [.int (M3 5 x3.toNatClampNeg), .int (nI 1), .int (nI 3)]) (st := []) (mw_X7_in  hs) gX7_strike_X7_in rfl hy_X7_in rfl (by decide) (by decide) (Nat.le_of_ble_eq_true rfl) rfl dX7_strike_103 (fun v12 M11 hs => ?_)
          refine wp_if_eq (tgt := 113) dX7_strike_106 (by decide) (fun c13 => ?_) (fun c13 => ?_)
          · have hs := hs.1 c13
            refine wp_iconst (v := (nI 0)) dX7_strike_113 (by decide) ?_
            refine wp_istore (ls' := [(0, .ref 0), (1, .int x1), (2, .int x2), (3, .int x3), (4, .int (nI 0))]) [1, 2, 3, 4, 0] dX7_strike_114 rfl (by decide) ?_
            refine wp_iload_n 2 dX7_strike_116 rfl ?_
            refine wp_iload 4 dX7_strike_117 rfl ?_
            refine wp_if_eq (tgt := 133) dX7_strike_119 (by decide) (fun c14 => ?_) (fun c14 => ?_)
            · have hs := hs.1 c14
              refine wp_iconst (v := (nI 0)) dX7_strike_133 (by decide) ?_
              refine wp_ior dX7_strike_134 ?_
              refine wp_topi (fun y15 ey15 => ?_)
              have hs := hs y15 ey15
              refine wp_istore_n (ls' := [(0, .ref 0), (1, .int x1), (2, .int y15), (3, .int x3), (4, .int (nI 0))]) [1, 2, 0, 3, 4] dX7_strike_135 rfl (by decide) ?_
              obtain ⟨y16, ey16⟩ : ∃ y : Int32, y = x3 + (nI 1) := ⟨_, rfl⟩
              have hs := hs y16 ey16
              refine wp_iinc (v := y16) (ls' := [(0, .ref 0), (1, .int x1), (2, .int y15), (3, .int y16), (4, .int (nI 0))]) 3 [1, 2, 3, 0, 4] dX7_strike_136 rfl (by rw [ey16]; rfl) rfl (by decide) ?_
              refine wp_goto (tgt := 4) dX7_strike_139 (by decide) ?_
              refine wp_sub (ls' := [(0, .ref 0), (1, .int x1), (2, .int y15), (3, .int y16)]) [0, 1, 2, 3] rfl ?_
              exact ih _ _ _ hs
            · have hs := hs.2 c14
              refine wp_iconst (v := (nI 1)) dX7_strike_122 (by decide) ?_
              refine wp_aload_n 0 dX7_strike_123 rfl ?_
              refine wp_get (v := .ref 7) dX7_strike_124 rfl (by decide) rfl in_X7_strike_X7 9 (by decide) fl_X7_strike_28 rfl rfl ?_
              refine wp_iload_n 3 dX7_strike_127 rfl ?_
              have hv := hs.1
              have hs := hs.2
              refine wp_iald rfl (by decide) hv dX7_strike_128 ?_
              refine wp_ishl dX7_strike_129 ?_
              refine wp_goto (tgt := 134) dX7_strike_130 (by decide) ?_
              refine wp_ior dX7_strike_134 ?_
              refine wp_topi (fun y17 ey17 => ?_)
              have hs := hs y17 ey17
              refine wp_istore_n (ls' := [(0, .ref 0), (1, .int x1), (2, .int y17), (3, .int x3), (4, .int (nI 0))]) [1, 2, 0, 3, 4] dX7_strike_135 rfl (by decide) ?_
              obtain ⟨y18, ey18⟩ : ∃ y : Int32, y = x3 + (nI 1) := ⟨_, rfl⟩
              have hs := hs y18 ey18
              refine wp_iinc (v := y18) (ls' := [(0, .ref 0), (1, .int x1), (2, .int y17), (3, .int y18), (4, .int (nI 0))]) 3 [1, 2, 3, 0, 4] dX7_strike_136 rfl (by rw [ey18]; rfl) rfl (by decide) ?_
              refine wp_goto (tgt := 4) dX7_strike_139 (by decide) ?_
              refine wp_sub (ls' := [(0, .ref 0), (1, .int x1), (2, .int y17), (3, .int y18)]) [0, 1, 2, 3] rfl ?_
              exact ih _ _ _ hs
          · have hs := hs.2 c13
            refine wp_iconst (v := (nI 1)) dX7_strike_109 (by decide) ?_
            refine wp_goto (tgt := 114) dX7_strike_110 (by decide) ?_
            refine wp_istore (ls' := [(0, .ref 0), (1, .int x1), (2, .int x2), (3, .int x3), (4, .int (nI 1))]) [1, 2, 3, 4, 0] dX7_strike_114 rfl (by decide) ?_
            refine wp_iload_n 2 dX7_strike_116 rfl ?_
            refine wp_iload 4 dX7_strike_117 rfl ?_
            refine wp_if_eq (tgt := 133) dX7_strike_119 (by decide) (fun c19 => ?_) (fun c19 => ?_)
            · have hs := hs.1 c19
              refine wp_iconst (v := (nI 0)) dX7_strike_133 (by decide) ?_
              refine wp_ior dX7_strike_134 ?_
              refine wp_topi (fun y20 ey20 => ?_)
              have hs := hs y20 ey20
              refine wp_istore_n (ls' := [(0, .ref 0), (1, .int x1), (2, .int y20), (3, .int x3), (4, .int (nI 1))]) [1, 2, 0, 3, 4] dX7_strike_135 rfl (by decide) ?_
              obtain ⟨y21, ey21⟩ : ∃ y : Int32, y = x3 + (nI 1) := ⟨_, rfl⟩
              have hs := hs y21 ey21
              refine wp_iinc (v := y21) (ls' := [(0, .ref 0), (1, .int x1), (2, .int y20), (3, .int y21), (4, .int (nI 1))]) 3 [1, 2, 3, 0, 4] dX7_strike_136 rfl (by rw [ey21]; rfl) rfl (by decide) ?_
              refine wp_goto (tgt := 4) dX7_strike_139 (by decide) ?_
              refine wp_sub (ls' := [(0, .ref 0), (1, .int x1), (2, .int y20), (3, .int y21)]) [0, 1, 2, 3] rfl ?_
              exact ih _ _ _ hs
            · have hs := hs.2 c19
              refine wp_iconst (v := (nI 1)) dX7_strike_122 (by decide) ?_
              refine wp_aload_n 0 dX7_strike_123 rfl ?_
              refine wp_get (v := .ref 7) dX7_strike_124 rfl (by decide) rfl in_X7_strike_X7 9 (by decide) fl_X7_strike_28 rfl rfl ?_
              refine wp_iload_n 3 dX7_strike_127 rfl ?_
              have hv := hs.1
              have hs := hs.2
              refine wp_iald rfl (by decide) hv dX7_strike_128 ?_
              refine wp_ishl dX7_strike_129 ?_
              refine wp_goto (tgt := 134) dX7_strike_130 (by decide) ?_
              refine wp_ior dX7_strike_134 ?_
              refine wp_topi (fun y22 ey22 => ?_)
              have hs := hs y22 ey22
              refine wp_istore_n (ls' := [(0, .ref 0), (1, .int x1), (2, .int y22), (3, .int x3), (4, .int (nI 1))]) [1, 2, 0, 3, 4] dX7_strike_135 rfl (by decide) ?_
              obtain ⟨y23, ey23⟩ : ∃ y : Int32, y = x3 + (nI 1) := ⟨_, rfl⟩
              have hs := hs y23 ey23
              refine wp_iinc (v := y23) (ls' := [(0, .ref 0), (1, .int x1), (2, .int y22), (3, .int y23), (4, .int (nI 1))]) 3 [1, 2, 3, 0, 4] dX7_strike_136 rfl (by rw [ey23]; rfl) rfl (by decide) ?_
              refine wp_goto (tgt := 4) dX7_strike_139 (by decide) ?_
              refine wp_sub (ls' := [(0, .ref 0), (1, .int x1), (2, .int y22), (3, .int y23)]) [0, 1, 2, 3] rfl ?_
              exact ih _ _ _ hs
      · have hs := hs.2 c2
        refine wp_aload_n 0 dX7_strike_16 rfl ?_
        refine wp_get (v := .ref 6) dX7_strike_17 rfl (by decide) rfl in_X7_strike_X7 8 (by decide) fl_X7_strike_25 rfl rfl ?_
        refine wp_iload_n 3 dX7_strike_20 rfl ?_
        have hv := hs.1
        have hs := hs.2
        refine wp_iald rfl (by decide) hv dX7_strike_21 ?_
        refine wp_iconst (v := (nI 1)) dX7_strike_22 (by decide) ?_
        refine wp_aload_n 0 dX7_strike_23 rfl ?_
        refine wp_get (v := .ref 1) dX7_strike_24 rfl (by decide) rfl in_X7_strike_X7 0 (by decide) fl_X7_strike_7 rfl rfl ?_
        refine wp_bipush (v := (nI 18)) dX7_strike_27 (by decide) ?_
        refine wp_iald rfl (by decide) (vil rfl) dX7_strike_29 ?_
        refine wp_cSi (As := [.int (M 6 x3.toNatClampNeg), .int (nI 1), .int (M 1 18)]) (st := []) (mw_X7_in  hs) gX7_strike_X7_in rfl hy_X7_in rfl (by decide) (by decide) (Nat.le_of_ble_eq_true rfl) rfl dX7_strike_30 (fun v25 M24 hs => ?_)
        refine wp_if_eq (tgt := 76) dX7_strike_33 (by decide) (fun c26 => ?_) (fun c26 => ?_)
        · have hs := hs.1 c26
          refine wp_iconst (v := (nI 0)) dX7_strike_76 (by decide) ?_
          refine wp_goto (tgt := 114) dX7_strike_77 (by decide) ?_
          refine wp_istore (ls' := [(0, .ref 0), (1, .int x1), (2, .int x2), (3, .int x3), (4, .int (nI 0))]) [1, 2, 3, 4, 0] dX7_strike_114 rfl (by decide) ?_
          refine wp_iload_n 2 dX7_strike_116 rfl ?_
          refine wp_iload 4 dX7_strike_117 rfl ?_
          refine wp_if_eq (tgt := 133) dX7_strike_119 (by decide) (fun c27 => ?_) (fun c27 => ?_)
          · have hs := hs.1 c27
            refine wp_iconst (v := (nI 0)) dX7_strike_133 (by decide) ?_
            refine wp_ior dX7_strike_134 ?_
            refine wp_topi (fun y28 ey28 => ?_)
            have hs := hs y28 ey28
            refine wp_istore_n (ls' := [(0, .ref 0), (1, .int x1), (2, .int y28), (3, .int x3), (4, .int (nI 0))]) [1, 2, 0, 3, 4] dX7_strike_135 rfl (by decide) ?_
            obtain ⟨y29, ey29⟩ : ∃ y : Int32, y = x3 + (nI 1) := ⟨_, rfl⟩
            have hs := hs y29 ey29
            refine wp_iinc (v := y29) (ls' := [(0, .ref 0), (1, .int x1), (2, .int y28), (3, .int y29), (4, .int (nI 0))]) 3 [1, 2, 3, 0, 4] dX7_strike_136 rfl (by rw [ey29]; rfl) rfl (by decide) ?_
            refine wp_goto (tgt := 4) dX7_strike_139 (by decide) ?_
            refine wp_sub (ls' := [(0, .ref 0), (1, .int x1), (2, .int y28), (3, .int y29)]) [0, 1, 2, 3] rfl ?_
            exact ih _ _ _ hs
          · have hs := hs.2 c27
            refine wp_iconst (v := (nI 1)) dX7_strike_122 (by decide) ?_
            refine wp_aload_n 0 dX7_strike_123 rfl ?_
            refine wp_get (v := .ref 7) dX7_strike_124 rfl (by decide) rfl in_X7_strike_X7 9 (by decide) fl_X7_strike_28 rfl rfl ?_
            refine wp_iload_n 3 dX7_strike_127 rfl ?_
            have hv := hs.1
            have hs := hs.2
            refine wp_iald rfl (by decide) hv dX7_strike_128 ?_
            refine wp_ishl dX7_strike_129 ?_
            refine wp_goto (tgt := 134) dX7_strike_130 (by decide) ?_
            refine wp_ior dX7_strike_134 ?_
            refine wp_topi (fun y30 ey30 => ?_)
            have hs := hs y30 ey30
            refine wp_istore_n (ls' := [(0, .ref 0), (1, .int x1), (2, .int y30), (3, .int x3), (4, .int (nI 0))]) [1, 2, 0, 3, 4] dX7_strike_135 rfl (by decide) ?_
            obtain ⟨y31, ey31⟩ : ∃ y : Int32, y = x3 + (nI 1) := ⟨_, rfl⟩
            have hs := hs y31 ey31
            refine wp_iinc (v := y31) (ls' := [(0, .ref 0), (1, .int x1), (2, .int y30), (3, .int y31), (4, .int (nI 0))]) 3 [1, 2, 3, 0, 4] dX7_strike_136 rfl (by rw [ey31]; rfl) rfl (by decide) ?_
            refine wp_goto (tgt := 4) dX7_strike_139 (by decide) ?_
            refine wp_sub (ls' := [(0, .ref 0), (1, .int x1), (2, .int y30), (3, .int y31)]) [0, 1, 2, 3] rfl ?_
            exact ih _ _ _ hs
        · have hs := hs.2 c26
          refine wp_aload_n 0 dX7_strike_36 rfl ?_
          refine wp_get (v := .ref 5) dX7_strike_37 rfl (by decide) rfl in_X7_strike_X7 7 (by decide) fl_X7_strike_22 rfl rfl ?_
          refine wp_iload_n 3 dX7_strike_40 rfl ?_
          have hv := hs.1
          have hs := hs.2
          refine wp_iald rfl (by decide) hv dX7_strike_41 ?_
          refine wp_iconst (v := (nI 1)) dX7_strike_42 (by decide) ?_
          refine wp_aload_n 0 dX7_strike_43 rfl ?_
          refine wp_get (v := .ref 6) dX7_strike_44 rfl (by decide) rfl in_X7_strike_X7 8 (by decide) fl_X7_strike_25 rfl rfl ?_
          refine wp_iload_n 3 dX7_strike_47 rfl ?_
          have hv := hs.1
          have hs := hs.2
          refine wp_iald rfl (by decide) hv dX7_strike_48 ?_
          refine wp_iconst (v := (nI 3)) dX7_strike_49 (by decide) ?_
          refine wp_icmp_ge (tgt := 57) dX7_strike_50 (by decide) (fun c32 => ?_) (fun c32 => ?_)
          · have hs := hs.1 c32
            refine wp_iconst (v := (nI 1)) dX7_strike_57 (by decide) ?_
            refine wp_aload_n 0 dX7_strike_58 rfl ?_
            refine wp_get (v := .ref 1) dX7_strike_59 rfl (by decide) rfl in_X7_strike_X7 0 (by decide) fl_X7_strike_7 rfl rfl ?_
            refine wp_bipush (v := (nI 19)) dX7_strike_62 (by decide) ?_
            refine wp_iald rfl (by decide) (vil rfl) dX7_strike_64 ?_
            refine wp_iadd dX7_strike_65 ?_
            refine wp_cSi (As := [.int (M24 5 x3.toNatClampNeg), .int (nI 1), .int ((nI 1) + (M24 1 19))]) (st := []) (mw_X7_in  hs) gX7_strike_X7_in rfl hy_X7_in rfl (by decide) (by decide) (Nat.le_of_ble_eq_true rfl) rfl dX7_strike_66 (fun v34 M33 hs => ?_)
            refine wp_if_eq (tgt := 76) dX7_strike_69 (by decide) (fun c35 => ?_) (fun c35 => ?_)
            · have hs := hs.1 c35
              refine wp_iconst (v := (nI 0)) dX7_strike_76 (by decide) ?_
              refine wp_goto (tgt := 114) dX7_strike_77 (by decide) ?_
              refine wp_istore (ls' := [(0, .ref 0), (1, .int x1), (2, .int x2), (3, .int x3), (4, .int (nI 0))]) [1, 2, 3, 4, 0] dX7_strike_114 rfl (by decide) ?_
              refine wp_iload_n 2 dX7_strike_116 rfl ?_
              refine wp_iload 4 dX7_strike_117 rfl ?_
              refine wp_if_eq (tgt := 133) dX7_strike_119 (by decide) (fun c36 => ?_) (fun c36 => ?_)
              · have hs := hs.1 c36
                refine wp_iconst (v := (nI 0)) dX7_strike_133 (by decide) ?_
                refine wp_ior dX7_strike_134 ?_
                refine wp_topi (fun y37 ey37 => ?_)
                have hs := hs y37 ey37
                refine wp_istore_n (ls' := [(0, .ref 0), (1, .int x1), (2, .int y37), (3, .int x3), (4, .int (nI 0))]) [1, 2, 0, 3, 4] dX7_strike_135 rfl (by decide) ?_
                obtain ⟨y38, ey38⟩ : ∃ y : Int32, y = x3 + (nI 1) := ⟨_, rfl⟩
                have hs := hs y38 ey38
                refine wp_iinc (v := y38) (ls' := [(0, .ref 0), (1, .int x1), (2, .int y37), (3, .int y38), (4, .int (nI 0))]) 3 [1, 2, 3, 0, 4] dX7_strike_136 rfl (by rw [ey38]; rfl) rfl (by decide) ?_
                refine wp_goto (tgt := 4) dX7_strike_139 (by decide) ?_
                refine wp_sub (ls' := [(0, .ref 0), (1, .int x1), (2, .int y37), (3, .int y38)]) [0, 1, 2, 3] rfl ?_
                exact ih _ _ _ hs
              · have hs := hs.2 c36
                refine wp_iconst (v := (nI 1)) dX7_strike_122 (by decide) ?_
                refine wp_aload_n 0 dX7_strike_123 rfl ?_
                refine wp_get (v := .ref 7) dX7_strike_124 rfl (by decide) rfl in_X7_strike_X7 9 (by decide) fl_X7_strike_28 rfl rfl ?_
                refine wp_iload_n 3 dX7_strike_127 rfl ?_
                have hv := hs.1
                have hs := hs.2
                refine wp_iald rfl (by decide) hv dX7_strike_128 ?_
                refine wp_ishl dX7_strike_129 ?_
                refine wp_goto (tgt := 134) dX7_strike_130 (by decide) ?_
                refine wp_ior dX7_strike_134 ?_
                refine wp_topi (fun y39 ey39 => ?_)
                have hs := hs y39 ey39
                refine wp_istore_n (ls' := [(0, .ref 0), (1, .int x1), (2, .int y39), (3, .int x3), (4, .int (nI 0))]) [1, 2, 0, 3, 4] dX7_strike_135 rfl (by decide) ?_
                obtain ⟨y40, ey40⟩ : ∃ y : Int32, y = x3 + (nI 1) := ⟨_, rfl⟩
                have hs := hs y40 ey40
                refine wp_iinc (v := y40) (ls' := [(0, .ref 0), (1, .int x1), (2, .int y39), (3, .int y40), (4, .int (nI 0))]) 3 [1, 2, 3, 0, 4] dX7_strike_136 rfl (by rw [ey40]; rfl) rfl (by decide) ?_
                refine wp_goto (tgt := 4) dX7_strike_139 (by decide) ?_
                refine wp_sub (ls' := [(0, .ref 0), (1, .int x1), (2, .int y39), (3, .int y40)]) [0, 1, 2, 3] rfl ?_
                exact ih _ _ _ hs
            · have hs := hs.2 c35
              refine wp_iconst (v := (nI 1)) dX7_strike_72 (by decide) ?_
              refine wp_goto (tgt := 114) dX7_strike_73 (by decide) ?_
              refine wp_istore (ls' := [(0, .ref 0), (1, .int x1), (2, .int x2), (3, .int x3), (4, .int (nI 1))]) [1, 2, 3, 4, 0] dX7_strike_114 rfl (by decide) ?_
              refine wp_iload_n 2 dX7_strike_116 rfl ?_
              refine wp_iload 4 dX7_strike_117 rfl ?_
              refine wp_if_eq (tgt := 133) dX7_strike_119 (by decide) (fun c41 => ?_) (fun c41 => ?_)
              · have hs := hs.1 c41
                refine wp_iconst (v := (nI 0)) dX7_strike_133 (by decide) ?_
                refine wp_ior dX7_strike_134 ?_
                refine wp_topi (fun y42 ey42 => ?_)
                have hs := hs y42 ey42
                refine wp_istore_n (ls' := [(0, .ref 0), (1, .int x1), (2, .int y42), (3, .int x3), (4, .int (nI 1))]) [1, 2, 0, 3, 4] dX7_strike_135 rfl (by decide) ?_
                obtain ⟨y43, ey43⟩ : ∃ y : Int32, y = x3 + (nI 1) := ⟨_, rfl⟩
                have hs := hs y43 ey43
                refine wp_iinc (v := y43) (ls' := [(0, .ref 0), (1, .int x1), (2, .int y42), (3, .int y43), (4, .int (nI 1))]) 3 [1, 2, 3, 0, 4] dX7_strike_136 rfl (by rw [ey43]; rfl) rfl (by decide) ?_
                refine wp_goto (tgt := 4) dX7_strike_139 (by decide) ?_
                refine wp_sub (ls' := [(0, .ref 0), (1, .int x1), (2, .int y42), (3, .int y43)]) [0, 1, 2, 3] rfl ?_
                exact ih _ _ _ hs
              · have hs := hs.2 c41
                refine wp_iconst (v := (nI 1)) dX7_strike_122 (by decide) ?_
                refine wp_aload_n 0 dX7_strike_123 rfl ?_
                refine wp_get (v := .ref 7) dX7_strike_124 rfl (by decide) rfl in_X7_strike_X7 9 (by decide) fl_X7_strike_28 rfl rfl ?_
                refine wp_iload_n 3 dX7_strike_127 rfl ?_
                have hv := hs.1
                have hs := hs.2
                refine wp_iald rfl (by decide) hv dX7_strike_128 ?_
                refine wp_ishl dX7_strike_129 ?_
                refine wp_goto (tgt := 134) dX7_strike_130 (by decide) ?_
                refine wp_ior dX7_strike_134 ?_
                refine wp_topi (fun y44 ey44 => ?_)
                have hs := hs y44 ey44
                refine wp_istore_n (ls' := [(0, .ref 0), (1, .int x1), (2, .int y44), (3, .int x3), (4, .int (nI 1))]) [1, 2, 0, 3, 4] dX7_strike_135 rfl (by decide) ?_
                obtain ⟨y45, ey45⟩ : ∃ y : Int32, y = x3 + (nI 1) := ⟨_, rfl⟩
                have hs := hs y45 ey45
                refine wp_iinc (v := y45) (ls' := [(0, .ref 0), (1, .int x1), (2, .int y44), (3, .int y45), (4, .int (nI 1))]) 3 [1, 2, 3, 0, 4] dX7_strike_136 rfl (by rw [ey45]; rfl) rfl (by decide) ?_
                refine wp_goto (tgt := 4) dX7_strike_139 (by decide) ?_
                refine wp_sub (ls' := [(0, .ref 0), (1, .int x1), (2, .int y44), (3, .int y45)]) [0, 1, 2, 3] rfl ?_
                exact ih _ _ _ hs
          · have hs := hs.2 c32
            refine wp_iconst (v := (nI 1)) dX7_strike_53 (by decide) ?_
            refine wp_goto (tgt := 66) dX7_strike_54 (by decide) ?_
            refine wp_cSi (As := [.int (M24 5 x3.toNatClampNeg), .int (nI 1), .int (nI 1)]) (st := []) (mw_X7_in  hs) gX7_strike_X7_in rfl hy_X7_in rfl (by decide) (by decide) (Nat.le_of_ble_eq_true rfl) rfl dX7_strike_66 (fun v47 M46 hs => ?_)
            refine wp_if_eq (tgt := 76) dX7_strike_69 (by decide) (fun c48 => ?_) (fun c48 => ?_)
            · have hs := hs.1 c48
              refine wp_iconst (v := (nI 0)) dX7_strike_76 (by decide) ?_
              refine wp_goto (tgt := 114) dX7_strike_77 (by decide) ?_
              refine wp_istore (ls' := [(0, .ref 0), (1, .int x1), (2, .int x2), (3, .int x3), (4, .int (nI 0))]) [1, 2, 3, 4, 0] dX7_strike_114 rfl (by decide) ?_
              refine wp_iload_n 2 dX7_strike_116 rfl ?_
              refine wp_iload 4 dX7_strike_117 rfl ?_
              refine wp_if_eq (tgt := 133) dX7_strike_119 (by decide) (fun c49 => ?_) (fun c49 => ?_)
              · have hs := hs.1 c49
                refine wp_iconst (v := (nI 0)) dX7_strike_133 (by decide) ?_
                refine wp_ior dX7_strike_134 ?_
                refine wp_topi (fun y50 ey50 => ?_)
                have hs := hs y50 ey50
                refine wp_istore_n (ls' := [(0, .ref 0), (1, .int x1), (2, .int y50), (3, .int x3), (4, .int (nI 0))]) [1, 2, 0, 3, 4] dX7_strike_135 rfl (by decide) ?_
                obtain ⟨y51, ey51⟩ : ∃ y : Int32, y = x3 + (nI 1) := ⟨_, rfl⟩
                have hs := hs y51 ey51
                refine wp_iinc (v := y51) (ls' := [(0, .ref 0), (1, .int x1), (2, .int y50), (3, .int y51), (4, .int (nI 0))]) 3 [1, 2, 3, 0, 4] dX7_strike_136 rfl (by rw [ey51]; rfl) rfl (by decide) ?_
                refine wp_goto (tgt := 4) dX7_strike_139 (by decide) ?_
                refine wp_sub (ls' := [(0, .ref 0), (1, .int x1), (2, .int y50), (3, .int y51)]) [0, 1, 2, 3] rfl ?_
                exact ih _ _ _ hs
              · have hs := hs.2 c49
                refine wp_iconst (v := (nI 1)) dX7_strike_122 (by decide) ?_
                refine wp_aload_n 0 dX7_strike_123 rfl ?_
                refine wp_get (v := .ref 7) dX7_strike_124 rfl (by decide) rfl in_X7_strike_X7 9 (by decide) fl_X7_strike_28 rfl rfl ?_
                refine wp_iload_n 3 dX7_strike_127 rfl ?_
                have hv := hs.1
                have hs := hs.2
                refine wp_iald rfl (by decide) hv dX7_strike_128 ?_
                refine wp_ishl dX7_strike_129 ?_
                refine wp_goto (tgt := 134) dX7_strike_130 (by decide) ?_
                refine wp_ior dX7_strike_134 ?_
                refine wp_topi (fun y52 ey52 => ?_)
                have hs := hs y52 ey52
                refine wp_istore_n (ls' := [(0, .ref 0), (1, .int x1), (2, .int y52), (3, .int x3), (4, .int (nI 0))]) [1, 2, 0, 3, 4] dX7_strike_135 rfl (by decide) ?_
                obtain ⟨y53, ey53⟩ : ∃ y : Int32, y = x3 + (nI 1) := ⟨_, rfl⟩
                have hs := hs y53 ey53
                refine wp_iinc (v := y53) (ls' := [(0, .ref 0), (1, .int x1), (2, .int y52), (3, .int y53), (4, .int (nI 0))]) 3 [1, 2, 3, 0, 4] dX7_strike_136 rfl (by rw [ey53]; rfl) rfl (by decide) ?_
                refine wp_goto (tgt := 4) dX7_strike_139 (by decide) ?_
                refine wp_sub (ls' := [(0, .ref 0), (1, .int x1), (2, .int y52), (3, .int y53)]) [0, 1, 2, 3] rfl ?_
                exact ih _ _ _ hs
            · have hs := hs.2 c48
              refine wp_iconst (v := (nI 1)) dX7_strike_72 (by decide) ?_
              refine wp_goto (tgt := 114) dX7_strike_73 (by decide) ?_
              refine wp_istore (ls' := [(0, .ref 0), (1, .int x1), (2, .int x2), (3, .int x3), (4, .int (nI 1))]) [1, 2, 3, 4, 0] dX7_strike_114 rfl (by decide) ?_
              refine wp_iload_n 2 dX7_strike_116 rfl ?_
              refine wp_iload 4 dX7_strike_117 rfl ?_
              refine wp_if_eq (tgt := 133) dX7_strike_119 (by decide) (fun c54 => ?_) (fun c54 => ?_)
              · have hs := hs.1 c54
                refine wp_iconst (v := (nI 0)) dX7_strike_133 (by decide) ?_
                refine wp_ior dX7_strike_134 ?_
                refine wp_topi (fun y55 ey55 => ?_)
                have hs := hs y55 ey55
                refine wp_istore_n (ls' := [(0, .ref 0), (1, .int x1), (2, .int y55), (3, .int x3), (4, .int (nI 1))]) [1, 2, 0, 3, 4] dX7_strike_135 rfl (by decide) ?_
                obtain ⟨y56, ey56⟩ : ∃ y : Int32, y = x3 + (nI 1) := ⟨_, rfl⟩
                have hs := hs y56 ey56
                refine wp_iinc (v := y56) (ls' := [(0, .ref 0), (1, .int x1), (2, .int y55), (3, .int y56), (4, .int (nI 1))]) 3 [1, 2, 3, 0, 4] dX7_strike_136 rfl (by rw [ey56]; rfl) rfl (by decide) ?_
                refine wp_goto (tgt := 4) dX7_strike_139 (by decide) ?_
                refine wp_sub (ls' := [(0, .ref 0), (1, .int x1), (2, .int y55), (3, .int y56)]) [0, 1, 2, 3] rfl ?_
                exact ih _ _ _ hs
              · have hs := hs.2 c54
                refine wp_iconst (v := (nI 1)) dX7_strike_122 (by decide) ?_
                refine wp_aload_n 0 dX7_strike_123 rfl ?_
                refine wp_get (v := .ref 7) dX7_strike_124 rfl (by decide) rfl in_X7_strike_X7 9 (by decide) fl_X7_strike_28 rfl rfl ?_
                refine wp_iload_n 3 dX7_strike_127 rfl ?_
                have hv := hs.1
                have hs := hs.2
                refine wp_iald rfl (by decide) hv dX7_strike_128 ?_
                refine wp_ishl dX7_strike_129 ?_
                refine wp_goto (tgt := 134) dX7_strike_130 (by decide) ?_
                refine wp_ior dX7_strike_134 ?_
                refine wp_topi (fun y57 ey57 => ?_)
                have hs := hs y57 ey57
                refine wp_istore_n (ls' := [(0, .ref 0), (1, .int x1), (2, .int y57), (3, .int x3), (4, .int (nI 1))]) [1, 2, 0, 3, 4] dX7_strike_135 rfl (by decide) ?_
                obtain ⟨y58, ey58⟩ : ∃ y : Int32, y = x3 + (nI 1) := ⟨_, rfl⟩
                have hs := hs y58 ey58
                refine wp_iinc (v := y58) (ls' := [(0, .ref 0), (1, .int x1), (2, .int y57), (3, .int y58), (4, .int (nI 1))]) 3 [1, 2, 3, 0, 4] dX7_strike_136 rfl (by rw [ey58]; rfl) rfl (by decide) ?_
                refine wp_goto (tgt := 4) dX7_strike_139 (by decide) ?_
                refine wp_sub (ls' := [(0, .ref 0), (1, .int x1), (2, .int y57), (3, .int y58)]) [0, 1, 2, 3] rfl ?_
                exact ih _ _ _ hs
def w_X7_strike (a : Int32) (M : Nat → Nat → Int32) (Q : Int32 → (Nat → Nat → Int32) → Prop) : Prop := w_X7_strike_4 FU a (nI 0) (nI 0) M (fun y59 y60 M61 => Q y59 M61)
set_option maxHeartbeats 4000000 in
set_option maxRecDepth 100000 in
theorem mw_X7_strike {E : EN} {a : Int32} {M : Nat → Nat → Int32} {Q : Int32 → (Nat → Nat → Int32) → Prop} (hs : w_X7_strike a M Q) : MW E iX7_strike 2 0 0 false [.ref 0, .int a] σM 10 M (qI σM 10 Q) := by
  refine mw_intro (ls := [(0, .ref 0), (1, .int a)]) rfl (by decide +kernel) rfl rfl (Nat.le_of_ble_eq_true rfl) ?_
  have hQ : ∀ x M, Q x M → (qI σM 10 Q) (some (.int x)) σM 10 M := fun _ _ h => ⟨_, rfl, rfl, rfl, h⟩
  generalize (qI σM 10 Q) = Qf at hQ ⊢
  unfold w_X7_strike at hs
  refine wp_iconst (v := (nI 0)) dX7_strike_0 (by decide) ?_
  refine wp_istore_n (ls' := [(0, .ref 0), (1, .int a), (2, .int (nI 0))]) [1, 2, 0] dX7_strike_1 rfl (by decide) ?_
  refine wp_iconst (v := (nI 0)) dX7_strike_2 (by decide) ?_
  refine wp_istore_n (ls' := [(0, .ref 0), (1, .int a), (2, .int (nI 0)), (3, .int (nI 0))]) [1, 2, 3, 0] dX7_strike_3 rfl (by decide) ?_
  refine wp_sub (ls' := [(0, .ref 0), (1, .int a), (2, .int (nI 0)), (3, .int (nI 0))]) [0, 1, 2, 3] rfl ?_
  refine lp_X7_strike_4 (K := fun y59 y60 M61 => Q y59 M61) (fun y59 y60 M61 hs => ?_) FU _ _ _ hs
  refine wp_iload_n 0 dX7_strike_142 rfl ?_
  exact wp_ireturn rfl rfl dX7_strike_143 (hQ _ _ hs)
abbrev iX7_strikesItself : MI := (cX7_strikesItself, 4, some .boolean, RX7, yX7_strikesItself, wsX7_strikesItself)
theorem hy_X7_strikesItself : yX7_strikesItself.cls = RX7 ∧ yX7_strikesItself.cls ≠ "java/lang/invoke/MethodHandle" ∧ yX7_strikesItself.cls ≠ "java/lang/invoke/VarHandle" ∧ (parseMethodDescriptor yX7_strikesItself.desc).map (fun d => d.parameters.length) = some 0 := by decide +kernel
theorem in_X7_strikesItself_X7 : ∀ w ∈ u_ws RX7 TX7 13, w ∈ wsX7_strikesItself := by decide +kernel
theorem fl_X7_strikesItself_22 : Cond.fieldLink RX7 22 (TX7 7).1 (TX7 7).2.1 (TX7 7).2.2.1 ∈ wsX7_strikesItself := by decide +kernel
theorem fl_X7_strikesItself_25 : Cond.fieldLink RX7 25 (TX7 8).1 (TX7 8).2.1 (TX7 8).2.2.1 ∈ wsX7_strikesItself := by decide +kernel
theorem fl_X7_strikesItself_28 : Cond.fieldLink RX7 28 (TX7 9).1 (TX7 9).2.1 (TX7 9).2.2.1 ∈ wsX7_strikesItself := by decide +kernel
theorem fl_X7_strikesItself_56 : Cond.fieldLink RX7 56 (TX7 10).1 (TX7 10).2.1 (TX7 10).2.2.1 ∈ wsX7_strikesItself := by decide +kernel
def w_X7_strikesItself_14 : Nat → Int32 → Int32 → Int32 → (Nat → Nat → Int32) → (Int32 → Int32 → (Nat → Nat → Int32) → Prop) → Prop
  | 0, _, _, _, _, _ => False
  | n + 1, x1, x2, x3, M, K => (((M 0 10) ≤ x3 → K x1 x3 M) ∧ (¬ (M 0 10) ≤ x3 → ((¬ x1 = 0 → ∀ y4 : Int32, y4 = x3 + (nI 1) → w_X7_strikesItself_14 n (nI 1) x2 y4 M K) ∧ (x1 = 0 → (vp_in x2 80 ∧ (vp_in x3 80 ∧ (((M 7 x2.toNatClampNeg) ≤ ((M 7 x3.toNatClampNeg) + (nI 1)) → ∀ y6 : Int32, y6 = x3 + (nI 1) → w_X7_strikesItself_14 n (nI 0) x2 y6 M K) ∧ (¬ (M 7 x2.toNatClampNeg) ≤ ((M 7 x3.toNatClampNeg) + (nI 1)) → (vp_in x2 80 ∧ (vp_in x3 80 ∧ ((¬ (M 5 x2.toNatClampNeg) = (M 5 x3.toNatClampNeg) → ∀ y8 : Int32, y8 = x3 + (nI 1) → w_X7_strikesItself_14 n (nI 0) x2 y8 M K) ∧ ((M 5 x2.toNatClampNeg) = (M 5 x3.toNatClampNeg) → (vp_in x2 80 ∧ (vp_in x3 80 ∧ ((¬ (M 6 x2.toNatClampNeg) = (M 6 x3.toNatClampNeg) → ∀ y10 : Int32, y10 = x3 + (nI 1) → w_X7_strikesItself_14 n (nI 0) x2 y10 M K) ∧ ((M 6 x2.toNatClampNeg) = (M 6 x3.toNatClampNeg) → ∀ y11 : Int32, y11 = x3 + (nI 1) → w_X7_strikesItself_14 n (nI 1) x2 y11 M K))))))))))))))))
set_option maxHeartbeats 4000000 in
set_option maxRecDepth 100000 in
theorem lp_X7_strikesItself_14 {E : EN} {x2 : Int32} {Qf : PST} {K : Int32 → Int32 → (Nat → Nat → Int32) → Prop} (hK : ∀ (z1 : Int32) (z3 : Int32) (M : Nat → Nat → Int32), K z1 z3 M → WP E iX7_strikesItself 1 0 0 false 85 [(0, .ref 0), (1, .int z1), (2, .int x2)] [] σM 10 M Qf) : ∀ (nn : Nat) (x1 : Int32) (x3 : Int32) (M : Nat → Nat → Int32), w_X7_strikesItself_14 nn x1 x2 x3 M K → WP E iX7_strikesItself 1 0 0 false 14 [(0, .ref 0), (1, .int x1), (2, .int x2), (3, .int x3)] [] σM 10 M Qf := by
  intro nn
  induction nn with
  | zero => intro x1 x3 M hs; exact hs.elim
  | succ n ih =>
    intro x1 x3 M hs
    unfold w_X7_strikesItself_14 at hs
    refine wp_iload_n 3 dX7_strikesItself_14 rfl ?_
    refine wp_aload_n 0 dX7_strikesItself_15 rfl ?_
    refine wp_get (v := .int (M 0 10)) dX7_strikesItself_16 rfl (by decide) rfl in_X7_strikesItself_X7 10 (by decide) fl_X7_strikesItself_56 rfl rfl ?_
    refine wp_icmp_ge (tgt := 85) dX7_strikesItself_19 (by decide) (fun c2 => ?_) (fun c2 => ?_)
    · have hs := hs.1 c2
      refine wp_sub (ls' := [(0, .ref 0), (1, .int x1), (2, .int x2)]) [0, 1, 2] rfl ?_
      exact hK _ _ _ hs
    · have hs := hs.2 c2
      refine wp_iload_n 1 dX7_strikesItself_22 rfl ?_
      refine wp_if_ne (tgt := 73) dX7_strikesItself_23 (by decide) (fun c3 => ?_) (fun c3 => ?_)
      · have hs := hs.1 c3
        refine wp_iconst (v := (nI 1)) dX7_strikesItself_73 (by decide) ?_
        refine wp_goto (tgt := 78) dX7_strikesItself_74 (by decide) ?_
        refine wp_istore_n (ls' := [(0, .ref 0), (1, .int (nI 1)), (2, .int x2), (3, .int x3)]) [1, 0, 2, 3] dX7_strikesItself_78 rfl (by decide) ?_
        obtain ⟨y4, ey4⟩ : ∃ y : Int32, y = x3 + (nI 1) := ⟨_, rfl⟩
        have hs := hs y4 ey4
        refine wp_iinc (v := y4) (ls' := [(0, .ref 0), (1, .int (nI 1)), (2, .int x2), (3, .int y4)]) 3 [1, 2, 3, 0] dX7_strikesItself_79 rfl (by rw [ey4]; rfl) rfl (by decide) ?_
        refine wp_goto (tgt := 14) dX7_strikesItself_82 (by decide) ?_
        refine wp_sub (ls' := [(0, .ref 0), (1, .int (nI 1)), (2, .int x2), (3, .int y4)]) [0, 1, 2, 3] rfl ?_
        exact ih _ _ _ hs
      · have hs := hs.2 c3
        refine wp_aload_n 0 dX7_strikesItself_26 rfl ?_
        refine wp_get (v := .ref 7) dX7_strikesItself_27 rfl (by decide) rfl in_X7_strikesItself_X7 9 (by decide) fl_X7_strikesItself_28 rfl rfl ?_
        refine wp_iload_n 2 dX7_strikesItself_30 rfl ?_
        have hv := hs.1
        have hs := hs.2
        refine wp_iald rfl (by decide) hv dX7_strikesItself_31 ?_
        refine wp_aload_n 0 dX7_strikesItself_32 rfl ?_
        refine wp_get (v := .ref 7) dX7_strikesItself_33 rfl (by decide) rfl in_X7_strikesItself_X7 9 (by decide) fl_X7_strikesItself_28 rfl rfl ?_
        refine wp_iload_n 3 dX7_strikesItself_36 rfl ?_
        have hv := hs.1
        have hs := hs.2
        refine wp_iald rfl (by decide) hv dX7_strikesItself_37 ?_
        refine wp_iconst (v := (nI 1)) dX7_strikesItself_38 (by decide) ?_
        refine wp_iadd dX7_strikesItself_39 ?_
        refine wp_icmp_le (tgt := 77) dX7_strikesItself_40 (by decide) (fun c5 => ?_) (fun c5 => ?_)
        · have hs := hs.1 c5
          refine wp_iconst (v := (nI 0)) dX7_strikesItself_77 (by decide) ?_
          refine wp_istore_n (ls' := [(0, .ref 0), (1, .int (nI 0)), (2, .int x2), (3, .int x3)]) [1, 0, 2, 3] dX7_strikesItself_78 rfl (by decide) ?_
          obtain ⟨y6, ey6⟩ : ∃ y : Int32, y = x3 + (nI 1) := ⟨_, rfl⟩
          have hs := hs y6 ey6
          refine wp_iinc (v := y6) (ls' := [(0, .ref 0), (1, .int (nI 0)), (2, .int x2), (3, .int y6)]) 3 [1, 2, 3, 0] dX7_strikesItself_79 rfl (by rw [ey6]; rfl) rfl (by decide) ?_
          refine wp_goto (tgt := 14) dX7_strikesItself_82 (by decide) ?_
          refine wp_sub (ls' := [(0, .ref 0), (1, .int (nI 0)), (2, .int x2), (3, .int y6)]) [0, 1, 2, 3] rfl ?_
          exact ih _ _ _ hs
        · have hs := hs.2 c5
          refine wp_aload_n 0 dX7_strikesItself_43 rfl ?_
          refine wp_get (v := .ref 5) dX7_strikesItself_44 rfl (by decide) rfl in_X7_strikesItself_X7 7 (by decide) fl_X7_strikesItself_22 rfl rfl ?_
          refine wp_iload_n 2 dX7_strikesItself_47 rfl ?_
          have hv := hs.1
          have hs := hs.2
          refine wp_iald rfl (by decide) hv dX7_strikesItself_48 ?_
          refine wp_aload_n 0 dX7_strikesItself_49 rfl ?_
          refine wp_get (v := .ref 5) dX7_strikesItself_50 rfl (by decide) rfl in_X7_strikesItself_X7 7 (by decide) fl_X7_strikesItself_22 rfl rfl ?_
          refine wp_iload_n 3 dX7_strikesItself_53 rfl ?_
          have hv := hs.1
          have hs := hs.2
          refine wp_iald rfl (by decide) hv dX7_strikesItself_54 ?_
          refine wp_icmp_ne (tgt := 77) dX7_strikesItself_55 (by decide) (fun c7 => ?_) (fun c7 => ?_)
          · have hs := hs.1 c7
            refine wp_iconst (v := (nI 0)) dX7_strikesItself_77 (by decide) ?_
            refine wp_istore_n (ls' := [(0, .ref 0), (1, .int (nI 0)), (2, .int x2), (3, .int x3)]) [1, 0, 2, 3] dX7_strikesItself_78 rfl (by decide) ?_
            obtain ⟨y8, ey8⟩ : ∃ y : Int32, y = x3 + (nI 1) := ⟨_, rfl⟩
            have hs := hs y8 ey8
            refine wp_iinc (v := y8) (ls' := [(0, .ref 0), (1, .int (nI 0)), (2, .int x2), (3, .int y8)]) 3 [1, 2, 3, 0] dX7_strikesItself_79 rfl (by rw [ey8]; rfl) rfl (by decide) ?_
            refine wp_goto (tgt := 14) dX7_strikesItself_82 (by decide) ?_
            refine wp_sub (ls' := [(0, .ref 0), (1, .int (nI 0)), (2, .int x2), (3, .int y8)]) [0, 1, 2, 3] rfl ?_
            exact ih _ _ _ hs
          · have hs := hs.2 c7
            refine wp_aload_n 0 dX7_strikesItself_58 rfl ?_
            refine wp_get (v := .ref 6) dX7_strikesItself_59 rfl (by decide) rfl in_X7_strikesItself_X7 8 (by decide) fl_X7_strikesItself_25 rfl rfl ?_
            refine wp_iload_n 2 dX7_strikesItself_62 rfl ?_
            have hv := hs.1
            have hs := hs.2
            refine wp_iald rfl (by decide) hv dX7_strikesItself_63 ?_
            refine wp_aload_n 0 dX7_strikesItself_64 rfl ?_
            refine wp_get (v := .ref 6) dX7_strikesItself_65 rfl (by decide) rfl in_X7_strikesItself_X7 8 (by decide) fl_X7_strikesItself_25 rfl rfl ?_
            refine wp_iload_n 3 dX7_strikesItself_68 rfl ?_
            have hv := hs.1
            have hs := hs.2
            refine wp_iald rfl (by decide) hv dX7_strikesItself_69 ?_
            refine wp_icmp_ne (tgt := 77) dX7_strikesItself_70 (by decide) (fun c9 => ?_) (fun c9 => ?_)
            · have hs := hs.1 c9
              refine wp_iconst (v := (nI 0)) dX7_strikesItself_77 (by decide) ?_
              refine wp_istore_n (ls' := [(0, .ref 0), (1, .int (nI 0)), (2, .int x2), (3, .int x3)]) [1, 0, 2, 3] dX7_strikesItself_78 rfl (by decide) ?_
              obtain ⟨y10, ey10⟩ : ∃ y : Int32, y = x3 + (nI 1) := ⟨_, rfl⟩
              have hs := hs y10 ey10
              refine wp_iinc (v := y10) (ls' := [(0, .ref 0), (1, .int (nI 0)), (2, .int x2), (3, .int y10)]) 3 [1, 2, 3, 0] dX7_strikesItself_79 rfl (by rw [ey10]; rfl) rfl (by decide) ?_
              refine wp_goto (tgt := 14) dX7_strikesItself_82 (by decide) ?_
              refine wp_sub (ls' := [(0, .ref 0), (1, .int (nI 0)), (2, .int x2), (3, .int y10)]) [0, 1, 2, 3] rfl ?_
              exact ih _ _ _ hs
            · have hs := hs.2 c9
              refine wp_iconst (v := (nI 1)) dX7_strikesItself_73 (by decide) ?_
              refine wp_goto (tgt := 78) dX7_strikesItself_74 (by decide) ?_
              refine wp_istore_n (ls' := [(0, .ref 0), (1, .int (nI 1)), (2, .int x2), (3, .int x3)]) [1, 0, 2, 3] dX7_strikesItself_78 rfl (by decide) ?_
              obtain ⟨y11, ey11⟩ : ∃ y : Int32, y = x3 + (nI 1) := ⟨_, rfl⟩
              have hs := hs y11 ey11
              refine wp_iinc (v := y11) (ls' := [(0, .ref 0), (1, .int (nI 1)), (2, .int x2), (3, .int y11)]) 3 [1, 2, 3, 0] dX7_strikesItself_79 rfl (by rw [ey11]; rfl) rfl (by decide) ?_
              refine wp_goto (tgt := 14) dX7_strikesItself_82 (by decide) ?_
              refine wp_sub (ls' := [(0, .ref 0), (1, .int (nI 1)), (2, .int x2), (3, .int y11)]) [0, 1, 2, 3] rfl ?_
              exact ih _ _ _ hs
def w_X7_strikesItself_4 : Nat → Int32 → Int32 → (Nat → Nat → Int32) → (Int32 → Int32 → (Nat → Nat → Int32) → Prop) → Prop
  | 0, _, _, _, _ => False
  | n + 1, x1, x2, M, K => (((M 0 10) ≤ x2 → K x1 x2 M) ∧ (¬ (M 0 10) ≤ x2 → w_X7_strikesItself_14 FU x1 x2 (nI 0) M (fun y12 y13 M14 => ∀ y15 : Int32, y15 = x2 + (nI 1) → w_X7_strikesItself_4 n y12 y15 M14 K)))
set_option maxHeartbeats 4000000 in
set_option maxRecDepth 100000 in
theorem lp_X7_strikesItself_4 {E : EN} {Qf : PST} {K : Int32 → Int32 → (Nat → Nat → Int32) → Prop} (hK : ∀ (z1 : Int32) (z2 : Int32) (M : Nat → Nat → Int32), K z1 z2 M → WP E iX7_strikesItself 1 0 0 false 91 [(1, .int z1)] [] σM 10 M Qf) : ∀ (nn : Nat) (x1 : Int32) (x2 : Int32) (M : Nat → Nat → Int32), w_X7_strikesItself_4 nn x1 x2 M K → WP E iX7_strikesItself 1 0 0 false 4 [(0, .ref 0), (1, .int x1), (2, .int x2)] [] σM 10 M Qf := by
  intro nn
  induction nn with
  | zero => intro x1 x2 M hs; exact hs.elim
  | succ n ih =>
    intro x1 x2 M hs
    unfold w_X7_strikesItself_4 at hs
    refine wp_iload_n 2 dX7_strikesItself_4 rfl ?_
    refine wp_aload_n 0 dX7_strikesItself_5 rfl ?_
    refine wp_get (v := .int (M 0 10)) dX7_strikesItself_6 rfl (by decide) rfl in_X7_strikesItself_X7 10 (by decide) fl_X7_strikesItself_56 rfl rfl ?_
    refine wp_icmp_ge (tgt := 91) dX7_strikesItself_9 (by decide) (fun c1 => ?_) (fun c1 => ?_)
    · have hs := hs.1 c1
      refine wp_sub (ls' := [(1, .int x1)]) [1] rfl ?_
      exact hK _ _ _ hs
    · have hs := hs.2 c1
      refine wp_iconst (v := (nI 0)) dX7_strikesItself_12 (by decide) ?_
      refine wp_istore_n (ls' := [(0, .ref 0), (1, .int x1), (2, .int x2), (3, .int (nI 0))]) [1, 2, 3, 0] dX7_strikesItself_13 rfl (by decide) ?_
      refine wp_sub (ls' := [(0, .ref 0), (1, .int x1), (2, .int x2), (3, .int (nI 0))]) [0, 1, 2, 3] rfl ?_
      refine lp_X7_strikesItself_14 (K := fun y12 y13 M14 => ∀ y15 : Int32, y15 = x2 + (nI 1) → w_X7_strikesItself_4 n y12 y15 M14 K) (fun y12 y13 M14 hs => ?_) FU _ _ _ hs
      obtain ⟨y15, ey15⟩ : ∃ y : Int32, y = x2 + (nI 1) := ⟨_, rfl⟩
      have hs := hs y15 ey15
      refine wp_iinc (v := y15) (ls' := [(0, .ref 0), (1, .int y12), (2, .int y15)]) 2 [1, 2, 0] dX7_strikesItself_85 rfl (by rw [ey15]; rfl) rfl (by decide) ?_
      refine wp_goto (tgt := 4) dX7_strikesItself_88 (by decide) ?_
      refine wp_sub (ls' := [(0, .ref 0), (1, .int y12), (2, .int y15)]) [0, 1, 2] rfl ?_
      exact ih _ _ _ hs
def w_X7_strikesItself (M : Nat → Nat → Int32) (Q : Int32 → (Nat → Nat → Int32) → Prop) : Prop := w_X7_strikesItself_4 FU (nI 0) (nI 0) M (fun y16 y17 M18 => (zb y16 ∧ Q y16 M18))
set_option maxHeartbeats 4000000 in
set_option maxRecDepth 100000 in
theorem mw_X7_strikesItself {E : EN} {M : Nat → Nat → Int32} {Q : Int32 → (Nat → Nat → Int32) → Prop} (hs : w_X7_strikesItself M Q) : MW E iX7_strikesItself 1 0 0 false [.ref 0] σM 10 M (qI σM 10 Q) := by
  refine mw_intro (ls := [(0, .ref 0)]) rfl (by decide +kernel) rfl rfl (Nat.le_of_ble_eq_true rfl) ?_
  have hQ : ∀ x M, Q x M → (qI σM 10 Q) (some (.int x)) σM 10 M := fun _ _ h => ⟨_, rfl, rfl, rfl, h⟩
  generalize (qI σM 10 Q) = Qf at hQ ⊢
  unfold w_X7_strikesItself at hs
  refine wp_iconst (v := (nI 0)) dX7_strikesItself_0 (by decide) ?_
  refine wp_istore_n (ls' := [(0, .ref 0), (1, .int (nI 0))]) [1, 0] dX7_strikesItself_1 rfl (by decide) ?_
  refine wp_iconst (v := (nI 0)) dX7_strikesItself_2 (by decide) ?_
  refine wp_istore_n (ls' := [(0, .ref 0), (1, .int (nI 0)), (2, .int (nI 0))]) [1, 2, 0] dX7_strikesItself_3 rfl (by decide) ?_
  refine wp_sub (ls' := [(0, .ref 0), (1, .int (nI 0)), (2, .int (nI 0))]) [0, 1, 2] rfl ?_
  refine lp_X7_strikesItself_4 (K := fun y16 y17 M18 => (zb y16 ∧ Q y16 M18)) (fun y16 y17 M18 hs => ?_) FU _ _ _ hs
  refine wp_iload_n 0 dX7_strikesItself_91 rfl ?_
  have hz := hs.1
  have hs := hs.2
  exact wp_ireturn rfl hz.1 dX7_strikesItself_92 (hQ _ _ hs)
abbrev iX7_clamped : MI := (cX7_clamped, 5, some .int, RX7, yX7_clamped, wsX7_clamped)
theorem hy_X7_clamped : yX7_clamped.cls = RX7 ∧ yX7_clamped.cls ≠ "java/lang/invoke/MethodHandle" ∧ yX7_clamped.cls ≠ "java/lang/invoke/VarHandle" ∧ (parseMethodDescriptor yX7_clamped.desc).map (fun d => d.parameters.length) = some 2 := by decide +kernel
theorem in_X7_clamped_X7 : ∀ w ∈ u_ws RX7 TX7 13, w ∈ wsX7_clamped := by decide +kernel
theorem fl_X7_clamped_7 : Cond.fieldLink RX7 7 (TX7 0).1 (TX7 0).2.1 (TX7 0).2.2.1 ∈ wsX7_clamped := by decide +kernel
def w_X7_clamped_16 : Nat → Int32 → Int32 → Int32 → (Nat → Nat → Int32) → (Int32 → Int32 → (Nat → Nat → Int32) → Prop) → Prop
  | 0, _, _, _, _, _ => False
  | n + 1, x2, x3, x4, M, K => w_X7_isFlange x4 M (fun v4 M3 => ((v4 = 0 → K x3 x4 M3) ∧ (¬ v4 = 0 → w_X7_has x2 (x4 - (nI 1)) M3 (fun v7 M6 => ((¬ v7 = 0 → K x3 x4 M6) ∧ (v7 = 0 → (vp_in ((nI 1) + x4) 23 ∧ ∀ y9 : Int32, y9 = (x3 + (M6 1 ((nI 1) + x4).toNatClampNeg)) → ∀ y10 : Int32, y10 = x4 + (nI 1) → w_X7_clamped_16 n x2 y9 y10 M6 K)))))))
set_option maxHeartbeats 4000000 in
set_option maxRecDepth 100000 in
theorem lp_X7_clamped_16 {E : EN} {x2 : Int32} {Qf : PST} {K : Int32 → Int32 → (Nat → Nat → Int32) → Prop} (hK : ∀ (z3 : Int32) (z4 : Int32) (M : Nat → Nat → Int32), K z3 z4 M → WP E iX7_clamped 3 0 0 false 54 [(3, .int z3)] [] σM 10 M Qf) : ∀ (nn : Nat) (x3 : Int32) (x4 : Int32) (M : Nat → Nat → Int32), w_X7_clamped_16 nn x2 x3 x4 M K → WP E iX7_clamped 3 0 0 false 16 [(0, .ref 0), (2, .int x2), (3, .int x3), (4, .int x4)] [] σM 10 M Qf := by
  intro nn
  induction nn with
  | zero => intro x3 x4 M hs; exact hs.elim
  | succ n ih =>
    intro x3 x4 M hs
    unfold w_X7_clamped_16 at hs
    refine wp_aload_n 0 dX7_clamped_16 rfl ?_
    refine wp_iload 3 dX7_clamped_17 rfl ?_
    refine wp_cVi (As := [.int x4]) (st := []) (mw_X7_isFlange  hs) gX7_clamped_X7_isFlange rfl hy_X7_isFlange rfl rfl (by decide) rfl (by decide) (by decide) (Nat.le_of_ble_eq_true rfl) rfl dX7_clamped_19 (fun v4 M3 hs => ?_)
    refine wp_if_eq (tgt := 54) dX7_clamped_22 (by decide) (fun c5 => ?_) (fun c5 => ?_)
    · have hs := hs.1 c5
      refine wp_sub (ls' := [(3, .int x3)]) [2] rfl ?_
      exact hK _ _ _ hs
    · have hs := hs.2 c5
      refine wp_iload_n 1 dX7_clamped_25 rfl ?_
      refine wp_iload 3 dX7_clamped_26 rfl ?_
      refine wp_iconst (v := (nI 1)) dX7_clamped_28 (by decide) ?_
      refine wp_isub dX7_clamped_29 ?_
      refine wp_cSi (As := [.int x2, .int (x4 - (nI 1))]) (st := []) (mw_X7_has  hs) gX7_clamped_X7_has rfl hy_X7_has rfl (by decide) (by decide) (Nat.le_of_ble_eq_true rfl) rfl dX7_clamped_30 (fun v7 M6 hs => ?_)
      refine wp_if_ne (tgt := 54) dX7_clamped_33 (by decide) (fun c8 => ?_) (fun c8 => ?_)
      · have hs := hs.1 c8
        refine wp_sub (ls' := [(3, .int x3)]) [2] rfl ?_
        exact hK _ _ _ hs
      · have hs := hs.2 c8
        refine wp_iload_n 2 dX7_clamped_36 rfl ?_
        refine wp_aload_n 0 dX7_clamped_37 rfl ?_
        refine wp_get (v := .ref 1) dX7_clamped_38 rfl (by decide) rfl in_X7_clamped_X7 0 (by decide) fl_X7_clamped_7 rfl rfl ?_
        refine wp_iconst (v := (nI 1)) dX7_clamped_41 (by decide) ?_
        refine wp_iload 3 dX7_clamped_42 rfl ?_
        refine wp_iadd dX7_clamped_44 ?_
        have hv := hs.1
        have hs := hs.2
        refine wp_iald rfl (by decide) hv dX7_clamped_45 ?_
        refine wp_iadd dX7_clamped_46 ?_
        refine wp_topi (fun y9 ey9 => ?_)
        have hs := hs y9 ey9
        refine wp_istore_n (ls' := [(0, .ref 0), (2, .int x2), (3, .int y9), (4, .int x4)]) [1, 2, 0, 3] dX7_clamped_47 rfl (by decide) ?_
        obtain ⟨y10, ey10⟩ : ∃ y : Int32, y = x4 + (nI 1) := ⟨_, rfl⟩
        have hs := hs y10 ey10
        refine wp_iinc (v := y10) (ls' := [(0, .ref 0), (2, .int x2), (3, .int y9), (4, .int y10)]) 3 [1, 2, 3, 0] dX7_clamped_48 rfl (by rw [ey10]; rfl) rfl (by decide) ?_
        refine wp_goto (tgt := 16) dX7_clamped_51 (by decide) ?_
        refine wp_sub (ls' := [(0, .ref 0), (2, .int x2), (3, .int y9), (4, .int y10)]) [0, 1, 2, 3] rfl ?_
        exact ih _ _ _ hs
def w_X7_clamped (a : Int32) (b : Int32) (M : Nat → Nat → Int32) (Q : Int32 → (Nat → Nat → Int32) → Prop) : Prop := (vp_in (((nI 1) + a) + (nI 1)) 23 ∧ ∀ y1 : Int32, y1 = (M 1 (((nI 1) + a) + (nI 1)).toNatClampNeg) → ∀ y2 : Int32, y2 = (a + (nI 2)) → w_X7_clamped_16 FU b y1 y2 M (fun y11 y12 M13 => Q y11 M13))
set_option maxHeartbeats 4000000 in
set_option maxRecDepth 100000 in
theorem mw_X7_clamped {E : EN} {a : Int32} {b : Int32} {M : Nat → Nat → Int32} {Q : Int32 → (Nat → Nat → Int32) → Prop} (hs : w_X7_clamped a b M Q) : MW E iX7_clamped 3 0 0 false [.ref 0, .int a, .int b] σM 10 M (qI σM 10 Q) := by
  refine mw_intro (ls := [(0, .ref 0), (1, .int a), (2, .int b)]) rfl (by decide +kernel) rfl rfl (Nat.le_of_ble_eq_true rfl) ?_
  have hQ : ∀ x M, Q x M → (qI σM 10 Q) (some (.int x)) σM 10 M := fun _ _ h => ⟨_, rfl, rfl, rfl, h⟩
  generalize (qI σM 10 Q) = Qf at hQ ⊢
  unfold w_X7_clamped at hs
  refine wp_aload_n 0 dX7_clamped_0 rfl ?_
  refine wp_get (v := .ref 1) dX7_clamped_1 rfl (by decide) rfl in_X7_clamped_X7 0 (by decide) fl_X7_clamped_7 rfl rfl ?_
  refine wp_iconst (v := (nI 1)) dX7_clamped_4 (by decide) ?_
  refine wp_iload_n 1 dX7_clamped_5 rfl ?_
  refine wp_iadd dX7_clamped_6 ?_
  refine wp_iconst (v := (nI 1)) dX7_clamped_7 (by decide) ?_
  refine wp_iadd dX7_clamped_8 ?_
  have hv := hs.1
  have hs := hs.2
  refine wp_iald rfl (by decide) hv dX7_clamped_9 ?_
  refine wp_topi (fun y1 ey1 => ?_)
  have hs := hs y1 ey1
  refine wp_istore_n (ls' := [(0, .ref 0), (1, .int a), (2, .int b), (3, .int y1)]) [1, 2, 3, 0] dX7_clamped_10 rfl (by decide) ?_
  refine wp_iload_n 1 dX7_clamped_11 rfl ?_
  refine wp_iconst (v := (nI 2)) dX7_clamped_12 (by decide) ?_
  refine wp_iadd dX7_clamped_13 ?_
  refine wp_topi (fun y2 ey2 => ?_)
  have hs := hs y2 ey2
  refine wp_istore (ls' := [(0, .ref 0), (1, .int a), (2, .int b), (3, .int y1), (4, .int y2)]) [1, 2, 3, 4, 0] dX7_clamped_14 rfl (by decide) ?_
  refine wp_sub (ls' := [(0, .ref 0), (2, .int b), (3, .int y1), (4, .int y2)]) [0, 2, 3, 4] rfl ?_
  refine lp_X7_clamped_16 (K := fun y11 y12 M13 => Q y11 M13) (fun y11 y12 M13 hs => ?_) FU _ _ _ hs
  refine wp_iload_n 0 dX7_clamped_54 rfl ?_
  exact wp_ireturn rfl rfl dX7_clamped_55 (hQ _ _ hs)
abbrev iX7_reason : MI := (cX7_reason, 6, some .int, RX7, yX7_reason, wsX7_reason)
theorem hy_X7_reason : yX7_reason.cls = RX7 ∧ yX7_reason.cls ≠ "java/lang/invoke/MethodHandle" ∧ yX7_reason.cls ≠ "java/lang/invoke/VarHandle" ∧ (parseMethodDescriptor yX7_reason.desc).map (fun d => d.parameters.length) = some 3 := by decide +kernel
theorem in_X7_reason_X7 : ∀ w ∈ u_ws RX7 TX7 13, w ∈ wsX7_reason := by decide +kernel
theorem fl_X7_reason_7 : Cond.fieldLink RX7 7 (TX7 0).1 (TX7 0).2.1 (TX7 0).2.2.1 ∈ wsX7_reason := by decide +kernel
def w_X7_reason (a : Int32) (b : Int32) (c : Int32) (M : Nat → Nat → Int32) (Q : Int32 → (Nat → Nat → Int32) → Prop) : Prop := w_X7_has b a M (fun v2 M1 => ((v2 = 0 → w_X7_isUp a c M1 (fun v5 M4 => ((¬ v5 = 0 → w_X7_clamped a b M4 (fun v8 M7 => (((M7 1 20) ≤ v8 → w_X7_lay a b c M7 (fun M10 => w_X7_strike (nI 1) M10 (fun v12 M11 => w_X7_strike (nI 0) M11 (fun v14 M13 => w_X7_swing a M13 (fun M15 => w_X7_strike (nI 1) M15 (fun v17 M16 => ∀ y18 : Int32, y18 = (v12 ||| v17) → w_X7_strike (nI 0) M16 (fun v20 M19 => ∀ y21 : Int32, y21 = (v14 ||| v20) → ((y18 = 0 → ((y21 = 0 → w_X7_strikesItself M19 (fun v25 M24 => ((v25 = 0 → Q (nI 0) M24) ∧ (¬ v25 = 0 → Q (nI 6) M24)))) ∧ (¬ y21 = 0 → Q (nI 5) M19))) ∧ (¬ y18 = 0 → Q (nI 4) M19))))))))) ∧ (¬ (M7 1 20) ≤ v8 → Q (nI 3) M7)))) ∧ (v5 = 0 → Q (nI 2) M4)))) ∧ (¬ v2 = 0 → Q (nI 1) M1)))
set_option maxHeartbeats 4000000 in
set_option maxRecDepth 100000 in
theorem mw_X7_reason {E : EN} {a : Int32} {b : Int32} {c : Int32} {M : Nat → Nat → Int32} {Q : Int32 → (Nat → Nat → Int32) → Prop} (hs : w_X7_reason a b c M Q) : MW E iX7_reason 5 0 0 false [.ref 0, .int a, .int b, .int c] σM 10 M (qI σM 10 Q) := by
  refine mw_intro (ls := [(0, .ref 0), (1, .int a), (2, .int b), (3, .int c)]) rfl (by decide +kernel) rfl rfl (Nat.le_of_ble_eq_true rfl) ?_
  have hQ : ∀ x M, Q x M → (qI σM 10 Q) (some (.int x)) σM 10 M := fun _ _ h => ⟨_, rfl, rfl, rfl, h⟩
  generalize (qI σM 10 Q) = Qf at hQ ⊢
  unfold w_X7_reason at hs
  refine wp_iload_n 2 dX7_reason_0 rfl ?_
  refine wp_iload_n 1 dX7_reason_1 rfl ?_
  refine wp_cSi (As := [.int b, .int a]) (st := []) (mw_X7_has  hs) gX7_reason_X7_has rfl hy_X7_has rfl (by decide) (by decide) (Nat.le_of_ble_eq_true rfl) rfl dX7_reason_2 (fun v2 M1 hs => ?_)
  refine wp_if_eq (tgt := 10) dX7_reason_5 (by decide) (fun c3 => ?_) (fun c3 => ?_)
  · have hs := hs.1 c3
    refine wp_aload_n 0 dX7_reason_10 rfl ?_
    refine wp_iload_n 1 dX7_reason_11 rfl ?_
    refine wp_iload_n 3 dX7_reason_12 rfl ?_
    refine wp_cVi (As := [.int a, .int c]) (st := []) (mw_X7_isUp  hs) gX7_reason_X7_isUp rfl hy_X7_isUp rfl rfl (by decide) rfl (by decide) (by decide) (Nat.le_of_ble_eq_true rfl) rfl dX7_reason_13 (fun v5 M4 hs => ?_)
    refine wp_if_ne (tgt := 21) dX7_reason_16 (by decide) (fun c6 => ?_) (fun c6 => ?_)
    · have hs := hs.1 c6
      refine wp_aload_n 0 dX7_reason_21 rfl ?_
      refine wp_iload_n 1 dX7_reason_22 rfl ?_
      refine wp_iload_n 2 dX7_reason_23 rfl ?_
      refine wp_cVi (As := [.int a, .int b]) (st := []) (mw_X7_clamped  hs) gX7_reason_X7_clamped rfl hy_X7_clamped rfl rfl (by decide) rfl (by decide) (by decide) (Nat.le_of_ble_eq_true rfl) rfl dX7_reason_24 (fun v8 M7 hs => ?_)
      refine wp_aload_n 0 dX7_reason_27 rfl ?_
      refine wp_get (v := .ref 1) dX7_reason_28 rfl (by decide) rfl in_X7_reason_X7 0 (by decide) fl_X7_reason_7 rfl rfl ?_
      refine wp_bipush (v := (nI 20)) dX7_reason_31 (by decide) ?_
      refine wp_iald rfl (by decide) (vil rfl) dX7_reason_33 ?_
      refine wp_icmp_ge (tgt := 39) dX7_reason_34 (by decide) (fun c9 => ?_) (fun c9 => ?_)
      · have hs := hs.1 c9
        refine wp_aload_n 0 dX7_reason_39 rfl ?_
        refine wp_iload_n 1 dX7_reason_40 rfl ?_
        refine wp_iload_n 2 dX7_reason_41 rfl ?_
        refine wp_iload_n 3 dX7_reason_42 rfl ?_
        refine wp_cVv (As := [.int a, .int b, .int c]) (st := []) (mw_X7_lay  hs) gX7_reason_X7_lay rfl hy_X7_lay rfl rfl (by decide) rfl (by decide) (by decide) (Nat.le_of_ble_eq_true rfl) rfl dX7_reason_43 (fun  M10 hs => ?_)
        refine wp_aload_n 0 dX7_reason_46 rfl ?_
        refine wp_iconst (v := (nI 1)) dX7_reason_47 (by decide) ?_
        refine wp_cVi (As := [.int (nI 1)]) (st := []) (mw_X7_strike  hs) gX7_reason_X7_strike rfl hy_X7_strike rfl rfl (by decide) rfl (by decide) (by decide) (Nat.le_of_ble_eq_true rfl) rfl dX7_reason_48 (fun v12 M11 hs => ?_)
        refine wp_istore (ls' := [(0, .ref 0), (1, .int a), (2, .int b), (3, .int c), (4, .int v12)]) [1, 2, 3, 4, 0] dX7_reason_51 rfl (by decide) ?_
        refine wp_aload_n 0 dX7_reason_53 rfl ?_
        refine wp_iconst (v := (nI 0)) dX7_reason_54 (by decide) ?_
        refine wp_cVi (As := [.int (nI 0)]) (st := []) (mw_X7_strike  hs) gX7_reason_X7_strike rfl hy_X7_strike rfl rfl (by decide) rfl (by decide) (by decide) (Nat.le_of_ble_eq_true rfl) rfl dX7_reason_55 (fun v14 M13 hs => ?_)
        refine wp_istore (ls' := [(0, .ref 0), (1, .int a), (2, .int b), (3, .int c), (4, .int v12), (5, .int v14)]) [1, 2, 3, 4, 5, 0] dX7_reason_58 rfl (by decide) ?_
        refine wp_aload_n 0 dX7_reason_60 rfl ?_
        refine wp_iload_n 1 dX7_reason_61 rfl ?_
        refine wp_cVv (As := [.int a]) (st := []) (mw_X7_swing  hs) gX7_reason_X7_swing rfl hy_X7_swing rfl rfl (by decide) rfl (by decide) (by decide) (Nat.le_of_ble_eq_true rfl) rfl dX7_reason_62 (fun  M15 hs => ?_)
        refine wp_iload 4 dX7_reason_65 rfl ?_
        refine wp_aload_n 0 dX7_reason_67 rfl ?_
        refine wp_iconst (v := (nI 1)) dX7_reason_68 (by decide) ?_
        refine wp_cVi (As := [.int (nI 1)]) (st := [.int v12]) (mw_X7_strike  hs) gX7_reason_X7_strike rfl hy_X7_strike rfl rfl (by decide) rfl (by decide) (by decide) (Nat.le_of_ble_eq_true rfl) rfl dX7_reason_69 (fun v17 M16 hs => ?_)
        refine wp_ior dX7_reason_72 ?_
        refine wp_topi (fun y18 ey18 => ?_)
        have hs := hs y18 ey18
        refine wp_istore (ls' := [(0, .ref 0), (1, .int a), (2, .int b), (3, .int c), (4, .int y18), (5, .int v14)]) [1, 2, 3, 4, 0, 5] dX7_reason_73 rfl (by decide) ?_
        refine wp_iload 5 dX7_reason_75 rfl ?_
        refine wp_aload_n 0 dX7_reason_77 rfl ?_
        refine wp_iconst (v := (nI 0)) dX7_reason_78 (by decide) ?_
        refine wp_cVi (As := [.int (nI 0)]) (st := [.int v14]) (mw_X7_strike  hs) gX7_reason_X7_strike rfl hy_X7_strike rfl rfl (by decide) rfl (by decide) (by decide) (Nat.le_of_ble_eq_true rfl) rfl dX7_reason_79 (fun v20 M19 hs => ?_)
        refine wp_ior dX7_reason_82 ?_
        refine wp_topi (fun y21 ey21 => ?_)
        have hs := hs y21 ey21
        refine wp_istore (ls' := [(0, .ref 0), (1, .int a), (2, .int b), (3, .int c), (4, .int y18), (5, .int y21)]) [1, 2, 3, 4, 5, 0] dX7_reason_83 rfl (by decide) ?_
        refine wp_iload 4 dX7_reason_85 rfl ?_
        refine wp_if_eq (tgt := 94) dX7_reason_87 (by decide) (fun c22 => ?_) (fun c22 => ?_)
        · have hs := hs.1 c22
          refine wp_iload 5 dX7_reason_94 rfl ?_
          refine wp_if_eq (tgt := 103) dX7_reason_96 (by decide) (fun c23 => ?_) (fun c23 => ?_)
          · have hs := hs.1 c23
            refine wp_aload_n 0 dX7_reason_103 rfl ?_
            refine wp_cVi (As := []) (st := []) (mw_X7_strikesItself  hs) gX7_reason_X7_strikesItself rfl hy_X7_strikesItself rfl rfl (by decide) rfl (by decide) (by decide) (Nat.le_of_ble_eq_true rfl) rfl dX7_reason_104 (fun v25 M24 hs => ?_)
            refine wp_if_eq (tgt := 115) dX7_reason_107 (by decide) (fun c26 => ?_) (fun c26 => ?_)
            · have hs := hs.1 c26
              refine wp_iconst (v := (nI 0)) dX7_reason_115 (by decide) ?_
              exact wp_ireturn rfl rfl dX7_reason_116 (hQ _ _ hs)
            · have hs := hs.2 c26
              refine wp_bipush (v := (nI 6)) dX7_reason_110 (by decide) ?_
              refine wp_goto (tgt := 116) dX7_reason_112 (by decide) ?_
              exact wp_ireturn rfl rfl dX7_reason_116 (hQ _ _ hs)
          · have hs := hs.2 c23
            refine wp_iconst (v := (nI 5)) dX7_reason_99 (by decide) ?_
            refine wp_goto (tgt := 116) dX7_reason_100 (by decide) ?_
            exact wp_ireturn rfl rfl dX7_reason_116 (hQ _ _ hs)
        · have hs := hs.2 c22
          refine wp_iconst (v := (nI 4)) dX7_reason_90 (by decide) ?_
          refine wp_goto (tgt := 116) dX7_reason_91 (by decide) ?_
          exact wp_ireturn rfl rfl dX7_reason_116 (hQ _ _ hs)
      · have hs := hs.2 c9
        refine wp_iconst (v := (nI 3)) dX7_reason_37 (by decide) ?_
        exact wp_ireturn rfl rfl dX7_reason_38 (hQ _ _ hs)
    · have hs := hs.2 c6
      refine wp_iconst (v := (nI 2)) dX7_reason_19 (by decide) ?_
      exact wp_ireturn rfl rfl dX7_reason_20 (hQ _ _ hs)
  · have hs := hs.2 c3
    refine wp_iconst (v := (nI 1)) dX7_reason_8 (by decide) ?_
    exact wp_ireturn rfl rfl dX7_reason_9 (hQ _ _ hs)
abbrev iX7_all : MI := (cX7_all, 1, some .int, RX7, yX7_all, wsX7_all)
theorem hy_X7_all : yX7_all.cls = RX7 ∧ yX7_all.cls ≠ "java/lang/invoke/MethodHandle" ∧ yX7_all.cls ≠ "java/lang/invoke/VarHandle" ∧ (parseMethodDescriptor yX7_all.desc).map (fun d => d.parameters.length) = some 0 := by decide +kernel
theorem in_X7_all_X7 : ∀ w ∈ u_ws RX7 TX7 13, w ∈ wsX7_all := by decide +kernel
theorem fl_X7_all_7 : Cond.fieldLink RX7 7 (TX7 0).1 (TX7 0).2.1 (TX7 0).2.2.1 ∈ wsX7_all := by decide +kernel
def w_X7_all (M : Nat → Nat → Int32) (Q : Int32 → (Nat → Nat → Int32) → Prop) : Prop := Q (((nI 1) <<< ((M 1 0) &&& 31)) - (nI 1)) M
set_option maxHeartbeats 4000000 in
set_option maxRecDepth 100000 in
theorem mw_X7_all {E : EN} {M : Nat → Nat → Int32} {Q : Int32 → (Nat → Nat → Int32) → Prop} (hs : w_X7_all M Q) : MW E iX7_all 1 0 0 false [.ref 0] σM 10 M (qI σM 10 Q) := by
  refine mw_intro (ls := [(0, .ref 0)]) rfl (by decide +kernel) rfl rfl (Nat.le_of_ble_eq_true rfl) ?_
  have hQ : ∀ x M, Q x M → (qI σM 10 Q) (some (.int x)) σM 10 M := fun _ _ h => ⟨_, rfl, rfl, rfl, h⟩
  generalize (qI σM 10 Q) = Qf at hQ ⊢
  unfold w_X7_all at hs
  refine wp_iconst (v := (nI 1)) dX7_all_0 (by decide) ?_
  refine wp_aload_n 0 dX7_all_1 rfl ?_
  refine wp_get (v := .ref 1) dX7_all_2 rfl (by decide) rfl in_X7_all_X7 0 (by decide) fl_X7_all_7 rfl rfl ?_
  refine wp_iconst (v := (nI 0)) dX7_all_5 (by decide) ?_
  refine wp_iald rfl (by decide) (vil rfl) dX7_all_6 ?_
  refine wp_ishl dX7_all_7 ?_
  refine wp_iconst (v := (nI 1)) dX7_all_8 (by decide) ?_
  refine wp_isub dX7_all_9 ?_
  exact wp_ireturn rfl rfl dX7_all_10 (hQ _ _ hs)
abbrev iX7_findNext : MI := (cX7_findNext, 3, none, RX7, yX7_findNext, wsX7_findNext)
theorem hy_X7_findNext : yX7_findNext.cls = RX7 ∧ yX7_findNext.cls ≠ "java/lang/invoke/MethodHandle" ∧ yX7_findNext.cls ≠ "java/lang/invoke/VarHandle" ∧ (parseMethodDescriptor yX7_findNext.desc).map (fun d => d.parameters.length) = some 0 := by decide +kernel
theorem in_X7_findNext_X7 : ∀ w ∈ u_ws RX7 TX7 13, w ∈ wsX7_findNext := by decide +kernel
theorem fl_X7_findNext_7 : Cond.fieldLink RX7 7 (TX7 0).1 (TX7 0).2.1 (TX7 0).2.2.1 ∈ wsX7_findNext := by decide +kernel
theorem fl_X7_findNext_31 : Cond.fieldLink RX7 31 (TX7 11).1 (TX7 11).2.1 (TX7 11).2.2.1 ∈ wsX7_findNext := by decide +kernel
def w_X7_findNext_18 : Nat → Int32 → Int32 → (Nat → Nat → Int32) → (Int32 → (Nat → Nat → Int32) → Prop) → Prop
  | 0, _, _, _, _ => False
  | n + 1, x1, x2, M, K => (((M 1 0) ≤ x2 → K x2 M) ∧ (¬ (M 1 0) ≤ x2 → ((¬ (x1 &&& (M 1 16)) = (M 1 16) → K x2 M) ∧ ((x1 &&& (M 1 16)) = (M 1 16) → (vp_in x1 128 ∧ (vp_in ((nI 9) + x2) 23 ∧ w_X7_reason x2 x1 ((nI 1) - (M 1 ((nI 9) + x2).toNatClampNeg)) M (fun v8 M7 => ((¬ v8 = 0 → (vp_in x1 128 ∧ ∀ M10 : Nat → Nat → Int32, M10 = um M7 8 (upd (M7 8) x1.toNatClampNeg ((M 8 x1.toNatClampNeg) ||| (nI 0))) → ∀ y11 : Int32, y11 = x2 + (nI 1) → w_X7_findNext_18 n x1 y11 M10 K)) ∧ (v8 = 0 → (vp_in x1 128 ∧ ∀ M12 : Nat → Nat → Int32, M12 = um M7 8 (upd (M7 8) x1.toNatClampNeg ((M 8 x1.toNatClampNeg) ||| ((nI 1) <<< (x2 &&& 31)))) → ∀ y13 : Int32, y13 = x2 + (nI 1) → w_X7_findNext_18 n x1 y13 M12 K))))))))))
set_option maxHeartbeats 4000000 in
set_option maxRecDepth 100000 in
theorem lp_X7_findNext_18 {E : EN} {x1 : Int32} {Qf : PST} {K : Int32 → (Nat → Nat → Int32) → Prop} (hK : ∀ (z2 : Int32) (M : Nat → Nat → Int32), K z2 M → WP E iX7_findNext 6 0 0 false 89 [(0, .ref 0), (1, .int x1)] [] σM 10 M Qf) : ∀ (nn : Nat) (x2 : Int32) (M : Nat → Nat → Int32), w_X7_findNext_18 nn x1 x2 M K → WP E iX7_findNext 6 0 0 false 18 [(0, .ref 0), (1, .int x1), (2, .int x2)] [] σM 10 M Qf := by
  intro nn
  induction nn with
  | zero => intro x2 M hs; exact hs.elim
  | succ n ih =>
    intro x2 M hs
    unfold w_X7_findNext_18 at hs
    refine wp_iload_n 2 dX7_findNext_18 rfl ?_
    refine wp_aload_n 0 dX7_findNext_19 rfl ?_
    refine wp_get (v := .ref 1) dX7_findNext_20 rfl (by decide) rfl in_X7_findNext_X7 0 (by decide) fl_X7_findNext_7 rfl rfl ?_
    refine wp_iconst (v := (nI 0)) dX7_findNext_23 (by decide) ?_
    refine wp_iald rfl (by decide) (vil rfl) dX7_findNext_24 ?_
    refine wp_icmp_ge (tgt := 89) dX7_findNext_25 (by decide) (fun c5 => ?_) (fun c5 => ?_)
    · have hs := hs.1 c5
      refine wp_sub (ls' := [(0, .ref 0), (1, .int x1)]) [0, 1] rfl ?_
      exact hK _ _ hs
    · have hs := hs.2 c5
      refine wp_iload_n 1 dX7_findNext_28 rfl ?_
      refine wp_aload_n 0 dX7_findNext_29 rfl ?_
      refine wp_get (v := .ref 1) dX7_findNext_30 rfl (by decide) rfl in_X7_findNext_X7 0 (by decide) fl_X7_findNext_7 rfl rfl ?_
      refine wp_bipush (v := (nI 16)) dX7_findNext_33 (by decide) ?_
      refine wp_iald rfl (by decide) (vil rfl) dX7_findNext_35 ?_
      refine wp_iand dX7_findNext_36 ?_
      refine wp_aload_n 0 dX7_findNext_37 rfl ?_
      refine wp_get (v := .ref 1) dX7_findNext_38 rfl (by decide) rfl in_X7_findNext_X7 0 (by decide) fl_X7_findNext_7 rfl rfl ?_
      refine wp_bipush (v := (nI 16)) dX7_findNext_41 (by decide) ?_
      refine wp_iald rfl (by decide) (vil rfl) dX7_findNext_43 ?_
      refine wp_icmp_ne (tgt := 89) dX7_findNext_44 (by decide) (fun c6 => ?_) (fun c6 => ?_)
      · have hs := hs.1 c6
        refine wp_sub (ls' := [(0, .ref 0), (1, .int x1)]) [0, 1] rfl ?_
        exact hK _ _ hs
      · have hs := hs.2 c6
        refine wp_aload_n 0 dX7_findNext_47 rfl ?_
        refine wp_get (v := .ref 8) dX7_findNext_48 rfl (by decide) rfl in_X7_findNext_X7 11 (by decide) fl_X7_findNext_31 rfl rfl ?_
        refine wp_iload_n 1 dX7_findNext_51 rfl ?_
        refine wp_dup2 rfl rfl dX7_findNext_52 ?_
        have hv := hs.1
        have hs := hs.2
        refine wp_iald rfl (by decide) hv dX7_findNext_53 ?_
        refine wp_aload_n 0 dX7_findNext_54 rfl ?_
        refine wp_iload_n 2 dX7_findNext_55 rfl ?_
        refine wp_iload_n 1 dX7_findNext_56 rfl ?_
        refine wp_iconst (v := (nI 1)) dX7_findNext_57 (by decide) ?_
        refine wp_aload_n 0 dX7_findNext_58 rfl ?_
        refine wp_get (v := .ref 1) dX7_findNext_59 rfl (by decide) rfl in_X7_findNext_X7 0 (by decide) fl_X7_findNext_7 rfl rfl ?_
        refine wp_bipush (v := (nI 9)) dX7_findNext_62 (by decide) ?_
        refine wp_iload_n 2 dX7_findNext_64 rfl ?_
        refine wp_iadd dX7_findNext_65 ?_
        have hv := hs.1
        have hs := hs.2
        refine wp_iald rfl (by decide) hv dX7_findNext_66 ?_
        refine wp_isub dX7_findNext_67 ?_
        refine wp_cVi (As := [.int x2, .int x1, .int ((nI 1) - (M 1 ((nI 9) + x2).toNatClampNeg))]) (st := [.int (M 8 x1.toNatClampNeg), .int x1, .ref 8]) (mw_X7_reason  hs) gX7_findNext_X7_reason rfl hy_X7_reason rfl rfl (by decide) rfl (by decide) (by decide) (Nat.le_of_ble_eq_true rfl) rfl dX7_findNext_68 (fun v8 M7 hs => ?_)
        refine wp_if_ne (tgt := 80) dX7_findNext_71 (by decide) (fun c9 => ?_) (fun c9 => ?_)
        · have hs := hs.1 c9
          refine wp_iconst (v := (nI 0)) dX7_findNext_80 (by decide) ?_
          refine wp_ior dX7_findNext_81 ?_
          have hv := hs.1
          have hs := hs.2
          refine wp_iast rfl (by decide) hv dX7_findNext_82 (fun M10 eM10 => ?_)
          have hs := hs M10 eM10
          obtain ⟨y11, ey11⟩ : ∃ y : Int32, y = x2 + (nI 1) := ⟨_, rfl⟩
          have hs := hs y11 ey11
          refine wp_iinc (v := y11) (ls' := [(0, .ref 0), (1, .int x1), (2, .int y11)]) 2 [1, 2, 0] dX7_findNext_83 rfl (by rw [ey11]; rfl) rfl (by decide) ?_
          refine wp_goto (tgt := 18) dX7_findNext_86 (by decide) ?_
          refine wp_sub (ls' := [(0, .ref 0), (1, .int x1), (2, .int y11)]) [0, 1, 2] rfl ?_
          exact ih _ _ hs
        · have hs := hs.2 c9
          refine wp_iconst (v := (nI 1)) dX7_findNext_74 (by decide) ?_
          refine wp_iload_n 2 dX7_findNext_75 rfl ?_
          refine wp_ishl dX7_findNext_76 ?_
          refine wp_goto (tgt := 81) dX7_findNext_77 (by decide) ?_
          refine wp_ior dX7_findNext_81 ?_
          have hv := hs.1
          have hs := hs.2
          refine wp_iast rfl (by decide) hv dX7_findNext_82 (fun M12 eM12 => ?_)
          have hs := hs M12 eM12
          obtain ⟨y13, ey13⟩ : ∃ y : Int32, y = x2 + (nI 1) := ⟨_, rfl⟩
          have hs := hs y13 ey13
          refine wp_iinc (v := y13) (ls' := [(0, .ref 0), (1, .int x1), (2, .int y13)]) 2 [1, 2, 0] dX7_findNext_83 rfl (by rw [ey13]; rfl) rfl (by decide) ?_
          refine wp_goto (tgt := 18) dX7_findNext_86 (by decide) ?_
          refine wp_sub (ls' := [(0, .ref 0), (1, .int x1), (2, .int y13)]) [0, 1, 2] rfl ?_
          exact ih _ _ hs
def w_X7_findNext_5 : Nat → Int32 → (Nat → Nat → Int32) → (Int32 → (Nat → Nat → Int32) → Prop) → Prop
  | 0, _, _, _ => False
  | n + 1, x1, M, K => ((x1 < 0 → K x1 M) ∧ (¬ x1 < 0 → (vp_in x1 128 ∧ ∀ M4 : Nat → Nat → Int32, M4 = um M 8 (upd (M 8) x1.toNatClampNeg (nI 0)) → w_X7_findNext_18 FU x1 (nI 0) M4 (fun y14 M15 => ∀ y16 : Int32, y16 = x1 + (-1 : Int32) → w_X7_findNext_5 n y16 M15 K))))
set_option maxHeartbeats 4000000 in
set_option maxRecDepth 100000 in
theorem lp_X7_findNext_5 {E : EN} {Qf : PST} {K : Int32 → (Nat → Nat → Int32) → Prop} (hK : ∀ (z1 : Int32) (M : Nat → Nat → Int32), K z1 M → WP E iX7_findNext 6 0 0 false 95 [] [] σM 10 M Qf) : ∀ (nn : Nat) (x1 : Int32) (M : Nat → Nat → Int32), w_X7_findNext_5 nn x1 M K → WP E iX7_findNext 6 0 0 false 5 [(0, .ref 0), (1, .int x1)] [] σM 10 M Qf := by
  intro nn
  induction nn with
  | zero => intro x1 M hs; exact hs.elim
  | succ n ih =>
    intro x1 M hs
    unfold w_X7_findNext_5 at hs
    refine wp_iload_n 1 dX7_findNext_5 rfl ?_
    refine wp_if_lt (tgt := 95) dX7_findNext_6 (by decide) (fun c3 => ?_) (fun c3 => ?_)
    · have hs := hs.1 c3
      refine wp_sub (ls' := []) [] rfl ?_
      exact hK _ _ hs
    · have hs := hs.2 c3
      refine wp_aload_n 0 dX7_findNext_9 rfl ?_
      refine wp_get (v := .ref 8) dX7_findNext_10 rfl (by decide) rfl in_X7_findNext_X7 11 (by decide) fl_X7_findNext_31 rfl rfl ?_
      refine wp_iload_n 1 dX7_findNext_13 rfl ?_
      refine wp_iconst (v := (nI 0)) dX7_findNext_14 (by decide) ?_
      have hv := hs.1
      have hs := hs.2
      refine wp_iast rfl (by decide) hv dX7_findNext_15 (fun M4 eM4 => ?_)
      have hs := hs M4 eM4
      refine wp_iconst (v := (nI 0)) dX7_findNext_16 (by decide) ?_
      refine wp_istore_n (ls' := [(0, .ref 0), (1, .int x1), (2, .int (nI 0))]) [1, 2, 0] dX7_findNext_17 rfl (by decide) ?_
      refine wp_sub (ls' := [(0, .ref 0), (1, .int x1), (2, .int (nI 0))]) [0, 1, 2] rfl ?_
      refine lp_X7_findNext_18 (K := fun y14 M15 => ∀ y16 : Int32, y16 = x1 + (-1 : Int32) → w_X7_findNext_5 n y16 M15 K) (fun y14 M15 hs => ?_) FU _ _ hs
      obtain ⟨y16, ey16⟩ : ∃ y : Int32, y = x1 + (-1 : Int32) := ⟨_, rfl⟩
      have hs := hs y16 ey16
      refine wp_iinc (v := y16) (ls' := [(0, .ref 0), (1, .int y16)]) 1 [1, 0] dX7_findNext_89 rfl (by rw [ey16]; rfl) rfl (by decide) ?_
      refine wp_goto (tgt := 5) dX7_findNext_92 (by decide) ?_
      refine wp_sub (ls' := [(0, .ref 0), (1, .int y16)]) [0, 1] rfl ?_
      exact ih _ _ hs
def w_X7_findNext (M : Nat → Nat → Int32) (Q : (Nat → Nat → Int32) → Prop) : Prop := w_X7_all M (fun v2 M1 => w_X7_findNext_5 FU v2 M1 (fun y17 M18 => Q M18))
set_option maxHeartbeats 4000000 in
set_option maxRecDepth 100000 in
theorem mw_X7_findNext {E : EN} {M : Nat → Nat → Int32} {Q : (Nat → Nat → Int32) → Prop} (hs : w_X7_findNext M Q) : MW E iX7_findNext 6 0 0 false [.ref 0] σM 10 M (qV σM 10 Q) := by
  refine mw_intro (ls := [(0, .ref 0)]) rfl (by decide +kernel) rfl rfl (Nat.le_of_ble_eq_true rfl) ?_
  have hQ : ∀ M, Q M → (qV σM 10 Q) none σM 10 M := fun _ h => ⟨rfl, rfl, rfl, h⟩
  generalize (qV σM 10 Q) = Qf at hQ ⊢
  unfold w_X7_findNext at hs
  refine wp_aload_n 0 dX7_findNext_0 rfl ?_
  refine wp_cVi (As := []) (st := []) (mw_X7_all  hs) gX7_findNext_X7_all rfl hy_X7_all rfl rfl (by decide) rfl (by decide) (by decide) (Nat.le_of_ble_eq_true rfl) rfl dX7_findNext_1 (fun v2 M1 hs => ?_)
  refine wp_istore_n (ls' := [(0, .ref 0), (1, .int v2)]) [1, 0] dX7_findNext_4 rfl (by decide) ?_
  refine wp_sub (ls' := [(0, .ref 0), (1, .int v2)]) [0, 1] rfl ?_
  refine lp_X7_findNext_5 (K := fun y17 M18 => Q M18) (fun y17 M18 hs => ?_) FU _ _ hs
  exact wp_return rfl dX7_findNext_95 (hQ _ hs)
abbrev iX7_countOrders : MI := (cX7_countOrders, 6, some .int, RX7, yX7_countOrders, wsX7_countOrders)
theorem hy_X7_countOrders : yX7_countOrders.cls = RX7 ∧ yX7_countOrders.cls ≠ "java/lang/invoke/MethodHandle" ∧ yX7_countOrders.cls ≠ "java/lang/invoke/VarHandle" ∧ (parseMethodDescriptor yX7_countOrders.desc).map (fun d => d.parameters.length) = some 2 := by decide +kernel
theorem in_X7_countOrders_X7 : ∀ w ∈ u_ws RX7 TX7 13, w ∈ wsX7_countOrders := by decide +kernel
theorem fl_X7_countOrders_7 : Cond.fieldLink RX7 7 (TX7 0).1 (TX7 0).2.1 (TX7 0).2.2.1 ∈ wsX7_countOrders := by decide +kernel
theorem fl_X7_countOrders_31 : Cond.fieldLink RX7 31 (TX7 11).1 (TX7 11).2.1 (TX7 11).2.2.1 ∈ wsX7_countOrders := by decide +kernel
theorem fl_X7_countOrders_34 : Cond.fieldLink RX7 34 (TX7 12).1 (TX7 12).2.1 (TX7 12).2.2.1 ∈ wsX7_countOrders := by decide +kernel
def w_X7_countOrders_31 : Nat → Int32 → Int32 → Int32 → Int32 → (Nat → Nat → Int32) → (Int32 → (Nat → Nat → Int32) → Prop) → Prop
  | 0, _, _, _, _, _, _ => False
  | n + 1, x1, x2, x3, x4, M, K => (((M 1 0) ≤ x4 → K x4 M) ∧ (¬ (M 1 0) ≤ x4 → (vp_in x3 128 ∧ w_X7_has (M 8 x3.toNatClampNeg) x4 M (fun v10 M9 => ((v10 = 0 → (vp_in x3 128 ∧ (((nI 0) = 0 → (vp_in x3 128 ∧ ∀ M13 : Nat → Nat → Int32, M13 = um M9 9 (upd (M9 9) x3.toNatClampNeg ((M9 9 x3.toNatClampNeg) + (nI 0))) → ∀ y14 : Int32, y14 = x4 + (nI 1) → w_X7_countOrders_31 n x1 x2 x3 y14 M13 K)) ∧ (¬ (nI 0) = 0 → (vp_in (x3 ||| ((nI 1) <<< (x4 &&& 31))) 128 ∧ (vp_in x3 128 ∧ ∀ M15 : Nat → Nat → Int32, M15 = um M9 9 (upd (M9 9) x3.toNatClampNeg ((M9 9 x3.toNatClampNeg) + (M9 9 (x3 ||| ((nI 1) <<< (x4 &&& 31))).toNatClampNeg))) → ∀ y16 : Int32, y16 = x4 + (nI 1) → w_X7_countOrders_31 n x1 x2 x3 y16 M15 K)))))) ∧ (¬ v10 = 0 → ((¬ x4 = x2 → (vp_in x3 128 ∧ (((nI 1) = 0 → (vp_in x3 128 ∧ ∀ M19 : Nat → Nat → Int32, M19 = um M9 9 (upd (M9 9) x3.toNatClampNeg ((M9 9 x3.toNatClampNeg) + (nI 0))) → ∀ y20 : Int32, y20 = x4 + (nI 1) → w_X7_countOrders_31 n x1 x2 x3 y20 M19 K)) ∧ (¬ (nI 1) = 0 → (vp_in (x3 ||| ((nI 1) <<< (x4 &&& 31))) 128 ∧ (vp_in x3 128 ∧ ∀ M21 : Nat → Nat → Int32, M21 = um M9 9 (upd (M9 9) x3.toNatClampNeg ((M9 9 x3.toNatClampNeg) + (M9 9 (x3 ||| ((nI 1) <<< (x4 &&& 31))).toNatClampNeg))) → ∀ y22 : Int32, y22 = x4 + (nI 1) → w_X7_countOrders_31 n x1 x2 x3 y22 M21 K)))))) ∧ (x4 = x2 → w_X7_has x3 x1 M9 (fun v24 M23 => ((v24 = 0 → (vp_in x3 128 ∧ (((nI 0) = 0 → (vp_in x3 128 ∧ ∀ M27 : Nat → Nat → Int32, M27 = um M23 9 (upd (M23 9) x3.toNatClampNeg ((M23 9 x3.toNatClampNeg) + (nI 0))) → ∀ y28 : Int32, y28 = x4 + (nI 1) → w_X7_countOrders_31 n x1 x2 x3 y28 M27 K)) ∧ (¬ (nI 0) = 0 → (vp_in (x3 ||| ((nI 1) <<< (x4 &&& 31))) 128 ∧ (vp_in x3 128 ∧ ∀ M29 : Nat → Nat → Int32, M29 = um M23 9 (upd (M23 9) x3.toNatClampNeg ((M23 9 x3.toNatClampNeg) + (M23 9 (x3 ||| ((nI 1) <<< (x4 &&& 31))).toNatClampNeg))) → ∀ y30 : Int32, y30 = x4 + (nI 1) → w_X7_countOrders_31 n x1 x2 x3 y30 M29 K)))))) ∧ (¬ v24 = 0 → (vp_in x3 128 ∧ (((nI 1) = 0 → (vp_in x3 128 ∧ ∀ M32 : Nat → Nat → Int32, M32 = um M23 9 (upd (M23 9) x3.toNatClampNeg ((M23 9 x3.toNatClampNeg) + (nI 0))) → ∀ y33 : Int32, y33 = x4 + (nI 1) → w_X7_countOrders_31 n x1 x2 x3 y33 M32 K)) ∧ (¬ (nI 1) = 0 → (vp_in (x3 ||| ((nI 1) <<< (x4 &&& 31))) 128 ∧ (vp_in x3 128 ∧ ∀ M34 : Nat → Nat → Int32, M34 = um M23 9 (upd (M23 9) x3.toNatClampNeg ((M23 9 x3.toNatClampNeg) + (M23 9 (x3 ||| ((nI 1) <<< (x4 &&& 31))).toNatClampNeg))) → ∀ y35 : Int32, y35 = x4 + (nI 1) → w_X7_countOrders_31 n x1 x2 x3 y35 M34 K))))))))))))))))
set_option maxHeartbeats 4000000 in
set_option maxRecDepth 100000 in
theorem lp_X7_countOrders_31 {E : EN} {x1 : Int32} {x2 : Int32} {x3 : Int32} {Qf : PST} {K : Int32 → (Nat → Nat → Int32) → Prop} (hK : ∀ (z4 : Int32) (M : Nat → Nat → Int32), K z4 M → WP E iX7_countOrders 2 0 0 false 112 [(0, .ref 0), (1, .int x1), (2, .int x2), (3, .int x3)] [] σM 10 M Qf) : ∀ (nn : Nat) (x4 : Int32) (M : Nat → Nat → Int32), w_X7_countOrders_31 nn x1 x2 x3 x4 M K → WP E iX7_countOrders 2 0 0 false 31 [(0, .ref 0), (1, .int x1), (2, .int x2), (3, .int x3), (4, .int x4)] [] σM 10 M Qf := by
  intro nn
  induction nn with
  | zero => intro x4 M hs; exact hs.elim
  | succ n ih =>
    intro x4 M hs
    unfold w_X7_countOrders_31 at hs
    refine wp_iload 4 dX7_countOrders_31 rfl ?_
    refine wp_aload_n 0 dX7_countOrders_33 rfl ?_
    refine wp_get (v := .ref 1) dX7_countOrders_34 rfl (by decide) rfl in_X7_countOrders_X7 0 (by decide) fl_X7_countOrders_7 rfl rfl ?_
    refine wp_iconst (v := (nI 0)) dX7_countOrders_37 (by decide) ?_
    refine wp_iald rfl (by decide) (vil rfl) dX7_countOrders_38 ?_
    refine wp_icmp_ge (tgt := 112) dX7_countOrders_39 (by decide) (fun c8 => ?_) (fun c8 => ?_)
    · have hs := hs.1 c8
      refine wp_sub (ls' := [(0, .ref 0), (1, .int x1), (2, .int x2), (3, .int x3)]) [0, 1, 2, 3] rfl ?_
      exact hK _ _ hs
    · have hs := hs.2 c8
      refine wp_aload_n 0 dX7_countOrders_42 rfl ?_
      refine wp_get (v := .ref 8) dX7_countOrders_43 rfl (by decide) rfl in_X7_countOrders_X7 11 (by decide) fl_X7_countOrders_31 rfl rfl ?_
      refine wp_iload_n 3 dX7_countOrders_46 rfl ?_
      have hv := hs.1
      have hs := hs.2
      refine wp_iald rfl (by decide) hv dX7_countOrders_47 ?_
      refine wp_iload 4 dX7_countOrders_48 rfl ?_
      refine wp_cSi (As := [.int (M 8 x3.toNatClampNeg), .int x4]) (st := []) (mw_X7_has  hs) gX7_countOrders_X7_has rfl hy_X7_has rfl (by decide) (by decide) (Nat.le_of_ble_eq_true rfl) rfl dX7_countOrders_50 (fun v10 M9 hs => ?_)
      refine wp_if_eq (tgt := 74) dX7_countOrders_53 (by decide) (fun c11 => ?_) (fun c11 => ?_)
      · have hs := hs.1 c11
        refine wp_iconst (v := (nI 0)) dX7_countOrders_74 (by decide) ?_
        refine wp_istore (ls' := [(0, .ref 0), (1, .int x1), (2, .int x2), (3, .int x3), (4, .int x4), (5, .int (nI 0))]) [1, 2, 3, 4, 5, 0] dX7_countOrders_75 rfl (by decide) ?_
        refine wp_aload_n 0 dX7_countOrders_77 rfl ?_
        refine wp_get (v := .ref 9) dX7_countOrders_78 rfl (by decide) rfl in_X7_countOrders_X7 12 (by decide) fl_X7_countOrders_34 rfl rfl ?_
        refine wp_iload_n 3 dX7_countOrders_81 rfl ?_
        refine wp_dup2 rfl rfl dX7_countOrders_82 ?_
        have hv := hs.1
        have hs := hs.2
        refine wp_iald rfl (by decide) hv dX7_countOrders_83 ?_
        refine wp_iload 5 dX7_countOrders_84 rfl ?_
        refine wp_if_eq (tgt := 103) dX7_countOrders_86 (by decide) (fun c12 => ?_) (fun c12 => ?_)
        · have hs := hs.1 c12
          refine wp_iconst (v := (nI 0)) dX7_countOrders_103 (by decide) ?_
          refine wp_iadd dX7_countOrders_104 ?_
          have hv := hs.1
          have hs := hs.2
          refine wp_iast rfl (by decide) hv dX7_countOrders_105 (fun M13 eM13 => ?_)
          have hs := hs M13 eM13
          obtain ⟨y14, ey14⟩ : ∃ y : Int32, y = x4 + (nI 1) := ⟨_, rfl⟩
          have hs := hs y14 ey14
          refine wp_iinc (v := y14) (ls' := [(0, .ref 0), (1, .int x1), (2, .int x2), (3, .int x3), (4, .int y14), (5, .int (nI 0))]) 4 [1, 2, 3, 4, 0, 5] dX7_countOrders_106 rfl (by rw [ey14]; rfl) rfl (by decide) ?_
          refine wp_goto (tgt := 31) dX7_countOrders_109 (by decide) ?_
          refine wp_sub (ls' := [(0, .ref 0), (1, .int x1), (2, .int x2), (3, .int x3), (4, .int y14)]) [0, 1, 2, 3, 4] rfl ?_
          exact ih _ _ hs
        · have hs := hs.2 c12
          refine wp_aload_n 0 dX7_countOrders_89 rfl ?_
          refine wp_get (v := .ref 9) dX7_countOrders_90 rfl (by decide) rfl in_X7_countOrders_X7 12 (by decide) fl_X7_countOrders_34 rfl rfl ?_
          refine wp_iload_n 3 dX7_countOrders_93 rfl ?_
          refine wp_iconst (v := (nI 1)) dX7_countOrders_94 (by decide) ?_
          refine wp_iload 4 dX7_countOrders_95 rfl ?_
          refine wp_ishl dX7_countOrders_97 ?_
          refine wp_ior dX7_countOrders_98 ?_
          have hv := hs.1
          have hs := hs.2
          refine wp_iald rfl (by decide) hv dX7_countOrders_99 ?_
          refine wp_goto (tgt := 104) dX7_countOrders_100 (by decide) ?_
          refine wp_iadd dX7_countOrders_104 ?_
          have hv := hs.1
          have hs := hs.2
          refine wp_iast rfl (by decide) hv dX7_countOrders_105 (fun M15 eM15 => ?_)
          have hs := hs M15 eM15
          obtain ⟨y16, ey16⟩ : ∃ y : Int32, y = x4 + (nI 1) := ⟨_, rfl⟩
          have hs := hs y16 ey16
          refine wp_iinc (v := y16) (ls' := [(0, .ref 0), (1, .int x1), (2, .int x2), (3, .int x3), (4, .int y16), (5, .int (nI 0))]) 4 [1, 2, 3, 4, 0, 5] dX7_countOrders_106 rfl (by rw [ey16]; rfl) rfl (by decide) ?_
          refine wp_goto (tgt := 31) dX7_countOrders_109 (by decide) ?_
          refine wp_sub (ls' := [(0, .ref 0), (1, .int x1), (2, .int x2), (3, .int x3), (4, .int y16)]) [0, 1, 2, 3, 4] rfl ?_
          exact ih _ _ hs
      · have hs := hs.2 c11
        refine wp_iload 4 dX7_countOrders_56 rfl ?_
        refine wp_iload_n 2 dX7_countOrders_58 rfl ?_
        refine wp_icmp_ne (tgt := 70) dX7_countOrders_59 (by decide) (fun c17 => ?_) (fun c17 => ?_)
        · have hs := hs.1 c17
          refine wp_iconst (v := (nI 1)) dX7_countOrders_70 (by decide) ?_
          refine wp_goto (tgt := 75) dX7_countOrders_71 (by decide) ?_
          refine wp_istore (ls' := [(0, .ref 0), (1, .int x1), (2, .int x2), (3, .int x3), (4, .int x4), (5, .int (nI 1))]) [1, 2, 3, 4, 5, 0] dX7_countOrders_75 rfl (by decide) ?_
          refine wp_aload_n 0 dX7_countOrders_77 rfl ?_
          refine wp_get (v := .ref 9) dX7_countOrders_78 rfl (by decide) rfl in_X7_countOrders_X7 12 (by decide) fl_X7_countOrders_34 rfl rfl ?_
          refine wp_iload_n 3 dX7_countOrders_81 rfl ?_
          refine wp_dup2 rfl rfl dX7_countOrders_82 ?_
          have hv := hs.1
          have hs := hs.2
          refine wp_iald rfl (by decide) hv dX7_countOrders_83 ?_
          refine wp_iload 5 dX7_countOrders_84 rfl ?_
          refine wp_if_eq (tgt := 103) dX7_countOrders_86 (by decide) (fun c18 => ?_) (fun c18 => ?_)
          · have hs := hs.1 c18
            refine wp_iconst (v := (nI 0)) dX7_countOrders_103 (by decide) ?_
            refine wp_iadd dX7_countOrders_104 ?_
            have hv := hs.1
            have hs := hs.2
            refine wp_iast rfl (by decide) hv dX7_countOrders_105 (fun M19 eM19 => ?_)
            have hs := hs M19 eM19
            obtain ⟨y20, ey20⟩ : ∃ y : Int32, y = x4 + (nI 1) := ⟨_, rfl⟩
            have hs := hs y20 ey20
            refine wp_iinc (v := y20) (ls' := [(0, .ref 0), (1, .int x1), (2, .int x2), (3, .int x3), (4, .int y20), (5, .int (nI 1))]) 4 [1, 2, 3, 4, 0, 5] dX7_countOrders_106 rfl (by rw [ey20]; rfl) rfl (by decide) ?_
            refine wp_goto (tgt := 31) dX7_countOrders_109 (by decide) ?_
            refine wp_sub (ls' := [(0, .ref 0), (1, .int x1), (2, .int x2), (3, .int x3), (4, .int y20)]) [0, 1, 2, 3, 4] rfl ?_
            exact ih _ _ hs
          · have hs := hs.2 c18
            refine wp_aload_n 0 dX7_countOrders_89 rfl ?_
            refine wp_get (v := .ref 9) dX7_countOrders_90 rfl (by decide) rfl in_X7_countOrders_X7 12 (by decide) fl_X7_countOrders_34 rfl rfl ?_
            refine wp_iload_n 3 dX7_countOrders_93 rfl ?_
            refine wp_iconst (v := (nI 1)) dX7_countOrders_94 (by decide) ?_
            refine wp_iload 4 dX7_countOrders_95 rfl ?_
            refine wp_ishl dX7_countOrders_97 ?_
            refine wp_ior dX7_countOrders_98 ?_
            have hv := hs.1
            have hs := hs.2
            refine wp_iald rfl (by decide) hv dX7_countOrders_99 ?_
            refine wp_goto (tgt := 104) dX7_countOrders_100 (by decide) ?_
            refine wp_iadd dX7_countOrders_104 ?_
            have hv := hs.1
            have hs := hs.2
            refine wp_iast rfl (by decide) hv dX7_countOrders_105 (fun M21 eM21 => ?_)
            have hs := hs M21 eM21
            obtain ⟨y22, ey22⟩ : ∃ y : Int32, y = x4 + (nI 1) := ⟨_, rfl⟩
            have hs := hs y22 ey22
            refine wp_iinc (v := y22) (ls' := [(0, .ref 0), (1, .int x1), (2, .int x2), (3, .int x3), (4, .int y22), (5, .int (nI 1))]) 4 [1, 2, 3, 4, 0, 5] dX7_countOrders_106 rfl (by rw [ey22]; rfl) rfl (by decide) ?_
            refine wp_goto (tgt := 31) dX7_countOrders_109 (by decide) ?_
            refine wp_sub (ls' := [(0, .ref 0), (1, .int x1), (2, .int x2), (3, .int x3), (4, .int y22)]) [0, 1, 2, 3, 4] rfl ?_
            exact ih _ _ hs
        · have hs := hs.2 c17
          refine wp_iload_n 3 dX7_countOrders_62 rfl ?_
          refine wp_iload_n 1 dX7_countOrders_63 rfl ?_
          refine wp_cSi (As := [.int x3, .int x1]) (st := []) (mw_X7_has  hs) gX7_countOrders_X7_has rfl hy_X7_has rfl (by decide) (by decide) (Nat.le_of_ble_eq_true rfl) rfl dX7_countOrders_64 (fun v24 M23 hs => ?_)
          refine wp_if_eq (tgt := 74) dX7_countOrders_67 (by decide) (fun c25 => ?_) (fun c25 => ?_)
          · have hs := hs.1 c25
            refine wp_iconst (v := (nI 0)) dX7_countOrders_74 (by decide) ?_
            refine wp_istore (ls' := [(0, .ref 0), (1, .int x1), (2, .int x2), (3, .int x3), (4, .int x4), (5, .int (nI 0))]) [1, 2, 3, 4, 5, 0] dX7_countOrders_75 rfl (by decide) ?_
            refine wp_aload_n 0 dX7_countOrders_77 rfl ?_
            refine wp_get (v := .ref 9) dX7_countOrders_78 rfl (by decide) rfl in_X7_countOrders_X7 12 (by decide) fl_X7_countOrders_34 rfl rfl ?_
            refine wp_iload_n 3 dX7_countOrders_81 rfl ?_
            refine wp_dup2 rfl rfl dX7_countOrders_82 ?_
            have hv := hs.1
            have hs := hs.2
            refine wp_iald rfl (by decide) hv dX7_countOrders_83 ?_
            refine wp_iload 5 dX7_countOrders_84 rfl ?_
            refine wp_if_eq (tgt := 103) dX7_countOrders_86 (by decide) (fun c26 => ?_) (fun c26 => ?_)
            · have hs := hs.1 c26
              refine wp_iconst (v := (nI 0)) dX7_countOrders_103 (by decide) ?_
              refine wp_iadd dX7_countOrders_104 ?_
              have hv := hs.1
              have hs := hs.2
              refine wp_iast rfl (by decide) hv dX7_countOrders_105 (fun M27 eM27 => ?_)
              have hs := hs M27 eM27
              obtain ⟨y28, ey28⟩ : ∃ y : Int32, y = x4 + (nI 1) := ⟨_, rfl⟩
              have hs := hs y28 ey28
              refine wp_iinc (v := y28) (ls' := [(0, .ref 0), (1, .int x1), (2, .int x2), (3, .int x3), (4, .int y28), (5, .int (nI 0))]) 4 [1, 2, 3, 4, 0, 5] dX7_countOrders_106 rfl (by rw [ey28]; rfl) rfl (by decide) ?_
              refine wp_goto (tgt := 31) dX7_countOrders_109 (by decide) ?_
              refine wp_sub (ls' := [(0, .ref 0), (1, .int x1), (2, .int x2), (3, .int x3), (4, .int y28)]) [0, 1, 2, 3, 4] rfl ?_
              exact ih _ _ hs
            · have hs := hs.2 c26
              refine wp_aload_n 0 dX7_countOrders_89 rfl ?_
              refine wp_get (v := .ref 9) dX7_countOrders_90 rfl (by decide) rfl in_X7_countOrders_X7 12 (by decide) fl_X7_countOrders_34 rfl rfl ?_
              refine wp_iload_n 3 dX7_countOrders_93 rfl ?_
              refine wp_iconst (v := (nI 1)) dX7_countOrders_94 (by decide) ?_
              refine wp_iload 4 dX7_countOrders_95 rfl ?_
              refine wp_ishl dX7_countOrders_97 ?_
              refine wp_ior dX7_countOrders_98 ?_
              have hv := hs.1
              have hs := hs.2
              refine wp_iald rfl (by decide) hv dX7_countOrders_99 ?_
              refine wp_goto (tgt := 104) dX7_countOrders_100 (by decide) ?_
              refine wp_iadd dX7_countOrders_104 ?_
              have hv := hs.1
              have hs := hs.2
              refine wp_iast rfl (by decide) hv dX7_countOrders_105 (fun M29 eM29 => ?_)
              have hs := hs M29 eM29
              obtain ⟨y30, ey30⟩ : ∃ y : Int32, y = x4 + (nI 1) := ⟨_, rfl⟩
              have hs := hs y30 ey30
              refine wp_iinc (v := y30) (ls' := [(0, .ref 0), (1, .int x1), (2, .int x2), (3, .int x3), (4, .int y30), (5, .int (nI 0))]) 4 [1, 2, 3, 4, 0, 5] dX7_countOrders_106 rfl (by rw [ey30]; rfl) rfl (by decide) ?_
              refine wp_goto (tgt := 31) dX7_countOrders_109 (by decide) ?_
              refine wp_sub (ls' := [(0, .ref 0), (1, .int x1), (2, .int x2), (3, .int x3), (4, .int y30)]) [0, 1, 2, 3, 4] rfl ?_
              exact ih _ _ hs
          · have hs := hs.2 c25
            refine wp_iconst (v := (nI 1)) dX7_countOrders_70 (by decide) ?_
            refine wp_goto (tgt := 75) dX7_countOrders_71 (by decide) ?_
            refine wp_istore (ls' := [(0, .ref 0), (1, .int x1), (2, .int x2), (3, .int x3), (4, .int x4), (5, .int (nI 1))]) [1, 2, 3, 4, 5, 0] dX7_countOrders_75 rfl (by decide) ?_
            refine wp_aload_n 0 dX7_countOrders_77 rfl ?_
            refine wp_get (v := .ref 9) dX7_countOrders_78 rfl (by decide) rfl in_X7_countOrders_X7 12 (by decide) fl_X7_countOrders_34 rfl rfl ?_
            refine wp_iload_n 3 dX7_countOrders_81 rfl ?_
            refine wp_dup2 rfl rfl dX7_countOrders_82 ?_
            have hv := hs.1
            have hs := hs.2
            refine wp_iald rfl (by decide) hv dX7_countOrders_83 ?_
            refine wp_iload 5 dX7_countOrders_84 rfl ?_
            refine wp_if_eq (tgt := 103) dX7_countOrders_86 (by decide) (fun c31 => ?_) (fun c31 => ?_)
            · have hs := hs.1 c31
              refine wp_iconst (v := (nI 0)) dX7_countOrders_103 (by decide) ?_
              refine wp_iadd dX7_countOrders_104 ?_
              have hv := hs.1
              have hs := hs.2
              refine wp_iast rfl (by decide) hv dX7_countOrders_105 (fun M32 eM32 => ?_)
              have hs := hs M32 eM32
              obtain ⟨y33, ey33⟩ : ∃ y : Int32, y = x4 + (nI 1) := ⟨_, rfl⟩
              have hs := hs y33 ey33
              refine wp_iinc (v := y33) (ls' := [(0, .ref 0), (1, .int x1), (2, .int x2), (3, .int x3), (4, .int y33), (5, .int (nI 1))]) 4 [1, 2, 3, 4, 0, 5] dX7_countOrders_106 rfl (by rw [ey33]; rfl) rfl (by decide) ?_
              refine wp_goto (tgt := 31) dX7_countOrders_109 (by decide) ?_
              refine wp_sub (ls' := [(0, .ref 0), (1, .int x1), (2, .int x2), (3, .int x3), (4, .int y33)]) [0, 1, 2, 3, 4] rfl ?_
              exact ih _ _ hs
            · have hs := hs.2 c31
              refine wp_aload_n 0 dX7_countOrders_89 rfl ?_
              refine wp_get (v := .ref 9) dX7_countOrders_90 rfl (by decide) rfl in_X7_countOrders_X7 12 (by decide) fl_X7_countOrders_34 rfl rfl ?_
              refine wp_iload_n 3 dX7_countOrders_93 rfl ?_
              refine wp_iconst (v := (nI 1)) dX7_countOrders_94 (by decide) ?_
              refine wp_iload 4 dX7_countOrders_95 rfl ?_
              refine wp_ishl dX7_countOrders_97 ?_
              refine wp_ior dX7_countOrders_98 ?_
              have hv := hs.1
              have hs := hs.2
              refine wp_iald rfl (by decide) hv dX7_countOrders_99 ?_
              refine wp_goto (tgt := 104) dX7_countOrders_100 (by decide) ?_
              refine wp_iadd dX7_countOrders_104 ?_
              have hv := hs.1
              have hs := hs.2
              refine wp_iast rfl (by decide) hv dX7_countOrders_105 (fun M34 eM34 => ?_)
              have hs := hs M34 eM34
              obtain ⟨y35, ey35⟩ : ∃ y : Int32, y = x4 + (nI 1) := ⟨_, rfl⟩
              have hs := hs y35 ey35
              refine wp_iinc (v := y35) (ls' := [(0, .ref 0), (1, .int x1), (2, .int x2), (3, .int x3), (4, .int y35), (5, .int (nI 1))]) 4 [1, 2, 3, 4, 0, 5] dX7_countOrders_106 rfl (by rw [ey35]; rfl) rfl (by decide) ?_
              refine wp_goto (tgt := 31) dX7_countOrders_109 (by decide) ?_
              refine wp_sub (ls' := [(0, .ref 0), (1, .int x1), (2, .int x2), (3, .int x3), (4, .int y35)]) [0, 1, 2, 3, 4] rfl ?_
              exact ih _ _ hs
def w_X7_countOrders_5 : Nat → Int32 → Int32 → Int32 → (Nat → Nat → Int32) → (Int32 → (Nat → Nat → Int32) → Prop) → Prop
  | 0, _, _, _, _, _ => False
  | n + 1, x1, x2, x3, M, K => ((x3 < 0 → K x3 M) ∧ (¬ x3 < 0 → w_X7_all M (fun v5 M4 => ((¬ x3 = v5 → (vp_in x3 128 ∧ ∀ M7 : Nat → Nat → Int32, M7 = um M4 9 (upd (M4 9) x3.toNatClampNeg (nI 0)) → w_X7_countOrders_31 FU x1 x2 x3 (nI 0) M7 (fun y36 M37 => ∀ y38 : Int32, y38 = x3 + (-1 : Int32) → w_X7_countOrders_5 n x1 x2 y38 M37 K))) ∧ (x3 = v5 → (vp_in x3 128 ∧ ∀ M39 : Nat → Nat → Int32, M39 = um M4 9 (upd (M4 9) x3.toNatClampNeg (nI 1)) → w_X7_countOrders_31 FU x1 x2 x3 (nI 0) M39 (fun y40 M41 => ∀ y42 : Int32, y42 = x3 + (-1 : Int32) → w_X7_countOrders_5 n x1 x2 y42 M41 K)))))))
set_option maxHeartbeats 4000000 in
set_option maxRecDepth 100000 in
theorem lp_X7_countOrders_5 {E : EN} {x1 : Int32} {x2 : Int32} {Qf : PST} {K : Int32 → (Nat → Nat → Int32) → Prop} (hK : ∀ (z3 : Int32) (M : Nat → Nat → Int32), K z3 M → WP E iX7_countOrders 2 0 0 false 118 [(0, .ref 0)] [] σM 10 M Qf) : ∀ (nn : Nat) (x3 : Int32) (M : Nat → Nat → Int32), w_X7_countOrders_5 nn x1 x2 x3 M K → WP E iX7_countOrders 2 0 0 false 5 [(0, .ref 0), (1, .int x1), (2, .int x2), (3, .int x3)] [] σM 10 M Qf := by
  intro nn
  induction nn with
  | zero => intro x3 M hs; exact hs.elim
  | succ n ih =>
    intro x3 M hs
    unfold w_X7_countOrders_5 at hs
    refine wp_iload_n 3 dX7_countOrders_5 rfl ?_
    refine wp_if_lt (tgt := 118) dX7_countOrders_6 (by decide) (fun c3 => ?_) (fun c3 => ?_)
    · have hs := hs.1 c3
      refine wp_sub (ls' := [(0, .ref 0)]) [0] rfl ?_
      exact hK _ _ hs
    · have hs := hs.2 c3
      refine wp_aload_n 0 dX7_countOrders_9 rfl ?_
      refine wp_get (v := .ref 9) dX7_countOrders_10 rfl (by decide) rfl in_X7_countOrders_X7 12 (by decide) fl_X7_countOrders_34 rfl rfl ?_
      refine wp_iload_n 3 dX7_countOrders_13 rfl ?_
      refine wp_iload_n 3 dX7_countOrders_14 rfl ?_
      refine wp_aload_n 0 dX7_countOrders_15 rfl ?_
      refine wp_cVi (As := []) (st := [.int x3, .int x3, .ref 9]) (mw_X7_all  hs) gX7_countOrders_X7_all rfl hy_X7_all rfl rfl (by decide) rfl (by decide) (by decide) (Nat.le_of_ble_eq_true rfl) rfl dX7_countOrders_16 (fun v5 M4 hs => ?_)
      refine wp_icmp_ne (tgt := 26) dX7_countOrders_19 (by decide) (fun c6 => ?_) (fun c6 => ?_)
      · have hs := hs.1 c6
        refine wp_iconst (v := (nI 0)) dX7_countOrders_26 (by decide) ?_
        have hv := hs.1
        have hs := hs.2
        refine wp_iast rfl (by decide) hv dX7_countOrders_27 (fun M7 eM7 => ?_)
        have hs := hs M7 eM7
        refine wp_iconst (v := (nI 0)) dX7_countOrders_28 (by decide) ?_
        refine wp_istore (ls' := [(0, .ref 0), (1, .int x1), (2, .int x2), (3, .int x3), (4, .int (nI 0))]) [1, 2, 3, 4, 0] dX7_countOrders_29 rfl (by decide) ?_
        refine wp_sub (ls' := [(0, .ref 0), (1, .int x1), (2, .int x2), (3, .int x3), (4, .int (nI 0))]) [0, 1, 2, 3, 4] rfl ?_
        refine lp_X7_countOrders_31 (K := fun y36 M37 => ∀ y38 : Int32, y38 = x3 + (-1 : Int32) → w_X7_countOrders_5 n x1 x2 y38 M37 K) (fun y36 M37 hs => ?_) FU _ _ hs
        obtain ⟨y38, ey38⟩ : ∃ y : Int32, y = x3 + (-1 : Int32) := ⟨_, rfl⟩
        have hs := hs y38 ey38
        refine wp_iinc (v := y38) (ls' := [(0, .ref 0), (1, .int x1), (2, .int x2), (3, .int y38)]) 3 [1, 2, 3, 0] dX7_countOrders_112 rfl (by rw [ey38]; rfl) rfl (by decide) ?_
        refine wp_goto (tgt := 5) dX7_countOrders_115 (by decide) ?_
        refine wp_sub (ls' := [(0, .ref 0), (1, .int x1), (2, .int x2), (3, .int y38)]) [0, 1, 2, 3] rfl ?_
        exact ih _ _ hs
      · have hs := hs.2 c6
        refine wp_iconst (v := (nI 1)) dX7_countOrders_22 (by decide) ?_
        refine wp_goto (tgt := 27) dX7_countOrders_23 (by decide) ?_
        have hv := hs.1
        have hs := hs.2
        refine wp_iast rfl (by decide) hv dX7_countOrders_27 (fun M39 eM39 => ?_)
        have hs := hs M39 eM39
        refine wp_iconst (v := (nI 0)) dX7_countOrders_28 (by decide) ?_
        refine wp_istore (ls' := [(0, .ref 0), (1, .int x1), (2, .int x2), (3, .int x3), (4, .int (nI 0))]) [1, 2, 3, 4, 0] dX7_countOrders_29 rfl (by decide) ?_
        refine wp_sub (ls' := [(0, .ref 0), (1, .int x1), (2, .int x2), (3, .int x3), (4, .int (nI 0))]) [0, 1, 2, 3, 4] rfl ?_
        refine lp_X7_countOrders_31 (K := fun y40 M41 => ∀ y42 : Int32, y42 = x3 + (-1 : Int32) → w_X7_countOrders_5 n x1 x2 y42 M41 K) (fun y40 M41 hs => ?_) FU _ _ hs
        obtain ⟨y42, ey42⟩ : ∃ y : Int32, y = x3 + (-1 : Int32) := ⟨_, rfl⟩
        have hs := hs y42 ey42
        refine wp_iinc (v := y42) (ls' := [(0, .ref 0), (1, .int x1), (2, .int x2), (3, .int y42)]) 3 [1, 2, 3, 0] dX7_countOrders_112 rfl (by rw [ey42]; rfl) rfl (by decide) ?_
        refine wp_goto (tgt := 5) dX7_countOrders_115 (by decide) ?_
        refine wp_sub (ls' := [(0, .ref 0), (1, .int x1), (2, .int x2), (3, .int y42)]) [0, 1, 2, 3] rfl ?_
        exact ih _ _ hs
def w_X7_countOrders (a : Int32) (b : Int32) (M : Nat → Nat → Int32) (Q : Int32 → (Nat → Nat → Int32) → Prop) : Prop := w_X7_all M (fun v2 M1 => w_X7_countOrders_5 FU a b v2 M1 (fun y43 M44 => (vp_in (M44 1 16) 128 ∧ Q (M44 9 (M44 1 16).toNatClampNeg) M44)))
set_option maxHeartbeats 4000000 in
set_option maxRecDepth 100000 in
theorem mw_X7_countOrders {E : EN} {a : Int32} {b : Int32} {M : Nat → Nat → Int32} {Q : Int32 → (Nat → Nat → Int32) → Prop} (hs : w_X7_countOrders a b M Q) : MW E iX7_countOrders 2 0 0 false [.ref 0, .int a, .int b] σM 10 M (qI σM 10 Q) := by
  refine mw_intro (ls := [(0, .ref 0), (1, .int a), (2, .int b)]) rfl (by decide +kernel) rfl rfl (Nat.le_of_ble_eq_true rfl) ?_
  have hQ : ∀ x M, Q x M → (qI σM 10 Q) (some (.int x)) σM 10 M := fun _ _ h => ⟨_, rfl, rfl, rfl, h⟩
  generalize (qI σM 10 Q) = Qf at hQ ⊢
  unfold w_X7_countOrders at hs
  refine wp_aload_n 0 dX7_countOrders_0 rfl ?_
  refine wp_cVi (As := []) (st := []) (mw_X7_all  hs) gX7_countOrders_X7_all rfl hy_X7_all rfl rfl (by decide) rfl (by decide) (by decide) (Nat.le_of_ble_eq_true rfl) rfl dX7_countOrders_1 (fun v2 M1 hs => ?_)
  refine wp_istore_n (ls' := [(0, .ref 0), (1, .int a), (2, .int b), (3, .int v2)]) [1, 2, 3, 0] dX7_countOrders_4 rfl (by decide) ?_
  refine wp_sub (ls' := [(0, .ref 0), (1, .int a), (2, .int b), (3, .int v2)]) [0, 1, 2, 3] rfl ?_
  refine lp_X7_countOrders_5 (K := fun y43 M44 => (vp_in (M44 1 16) 128 ∧ Q (M44 9 (M44 1 16).toNatClampNeg) M44)) (fun y43 M44 hs => ?_) FU _ _ hs
  refine wp_aload_n 0 dX7_countOrders_118 rfl ?_
  refine wp_get (v := .ref 9) dX7_countOrders_119 rfl (by decide) rfl in_X7_countOrders_X7 12 (by decide) fl_X7_countOrders_34 rfl rfl ?_
  refine wp_aload_n 0 dX7_countOrders_122 rfl ?_
  refine wp_get (v := .ref 1) dX7_countOrders_123 rfl (by decide) rfl in_X7_countOrders_X7 0 (by decide) fl_X7_countOrders_7 rfl rfl ?_
  refine wp_bipush (v := (nI 16)) dX7_countOrders_126 (by decide) ?_
  refine wp_iald rfl (by decide) (vil rfl) dX7_countOrders_128 ?_
  have hv := hs.1
  have hs := hs.2
  refine wp_iald rfl (by decide) hv dX7_countOrders_129 ?_
  exact wp_ireturn rfl rfl dX7_countOrders_130 (hQ _ _ hs)
abbrev iX7_allOrders : MI := (cX7_allOrders, 1, some .int, RX7, yX7_allOrders, wsX7_allOrders)
theorem hy_X7_allOrders : yX7_allOrders.cls = RX7 ∧ yX7_allOrders.cls ≠ "java/lang/invoke/MethodHandle" ∧ yX7_allOrders.cls ≠ "java/lang/invoke/VarHandle" ∧ (parseMethodDescriptor yX7_allOrders.desc).map (fun d => d.parameters.length) = some 0 := by decide +kernel
def w_X7_allOrders (M : Nat → Nat → Int32) (Q : Int32 → (Nat → Nat → Int32) → Prop) : Prop := w_X7_findNext M (fun M1 => w_X7_countOrders (-1005 : Int32) (-1005 : Int32) M1 (fun v3 M2 => Q v3 M2))
set_option maxHeartbeats 4000000 in
set_option maxRecDepth 100000 in
theorem mw_X7_allOrders {E : EN} {M : Nat → Nat → Int32} {Q : Int32 → (Nat → Nat → Int32) → Prop} (hs : w_X7_allOrders M Q) : MW E iX7_allOrders 7 0 0 false [.ref 0] σM 10 M (qI σM 10 Q) := by
  refine mw_intro (ls := [(0, .ref 0)]) rfl (by decide +kernel) rfl rfl (Nat.le_of_ble_eq_true rfl) ?_
  have hQ : ∀ x M, Q x M → (qI σM 10 Q) (some (.int x)) σM 10 M := fun _ _ h => ⟨_, rfl, rfl, rfl, h⟩
  generalize (qI σM 10 Q) = Qf at hQ ⊢
  unfold w_X7_allOrders at hs
  refine wp_aload_n 0 dX7_allOrders_0 rfl ?_
  refine wp_cVv (As := []) (st := []) (mw_X7_findNext  hs) gX7_allOrders_X7_findNext rfl hy_X7_findNext rfl rfl (by decide) rfl (by decide) (by decide) (Nat.le_of_ble_eq_true rfl) rfl dX7_allOrders_1 (fun  M1 hs => ?_)
  refine wp_aload_n 0 dX7_allOrders_4 rfl ?_
  refine wp_sipush (v := (-1005 : Int32)) dX7_allOrders_5 (by decide) ?_
  refine wp_sipush (v := (-1005 : Int32)) dX7_allOrders_8 (by decide) ?_
  refine wp_cVi (As := [.int (-1005 : Int32), .int (-1005 : Int32)]) (st := []) (mw_X7_countOrders  hs) gX7_allOrders_X7_countOrders rfl hy_X7_countOrders rfl rfl (by decide) rfl (by decide) (by decide) (Nat.le_of_ble_eq_true rfl) rfl dX7_allOrders_11 (fun v3 M2 hs => ?_)
  exact wp_ireturn rfl rfl dX7_allOrders_14 (hQ _ _ hs)
abbrev iX7_nextOf : MI := (cX7_nextOf, 3, some .int, RX7, yX7_nextOf, wsX7_nextOf)
theorem hy_X7_nextOf : yX7_nextOf.cls = RX7 ∧ yX7_nextOf.cls ≠ "java/lang/invoke/MethodHandle" ∧ yX7_nextOf.cls ≠ "java/lang/invoke/VarHandle" ∧ (parseMethodDescriptor yX7_nextOf.desc).map (fun d => d.parameters.length) = some 1 := by decide +kernel
theorem in_X7_nextOf_X7 : ∀ w ∈ u_ws RX7 TX7 13, w ∈ wsX7_nextOf := by decide +kernel
theorem fl_X7_nextOf_7 : Cond.fieldLink RX7 7 (TX7 0).1 (TX7 0).2.1 (TX7 0).2.2.1 ∈ wsX7_nextOf := by decide +kernel
theorem fl_X7_nextOf_31 : Cond.fieldLink RX7 31 (TX7 11).1 (TX7 11).2.1 (TX7 11).2.2.1 ∈ wsX7_nextOf := by decide +kernel
theorem fl_X7_nextOf_34 : Cond.fieldLink RX7 34 (TX7 12).1 (TX7 12).2.1 (TX7 12).2.2.1 ∈ wsX7_nextOf := by decide +kernel
def w_X7_nextOf_2 : Nat → Int32 → Int32 → (Nat → Nat → Int32) → (Int32 → (Nat → Nat → Int32) → Prop) → (Int32 → (Nat → Nat → Int32) → Prop) → Prop
  | 0, _, _, _, _, _ => False
  | n + 1, x1, x2, M, Q, K => (((M 1 0) ≤ x2 → K x2 M) ∧ (¬ (M 1 0) ≤ x2 → (vp_in x1 128 ∧ w_X7_has (M 8 x1.toNatClampNeg) x2 M (fun v3 M2 => ((v3 = 0 → ∀ y5 : Int32, y5 = x2 + (nI 1) → w_X7_nextOf_2 n x1 y5 M2 Q K) ∧ (¬ v3 = 0 → (vp_in (x1 ||| ((nI 1) <<< (x2 &&& 31))) 128 ∧ (((M2 9 (x1 ||| ((nI 1) <<< (x2 &&& 31))).toNatClampNeg) ≤ 0 → ∀ y7 : Int32, y7 = x2 + (nI 1) → w_X7_nextOf_2 n x1 y7 M2 Q K) ∧ (¬ (M2 9 (x1 ||| ((nI 1) <<< (x2 &&& 31))).toNatClampNeg) ≤ 0 → Q x2 M2)))))))))
set_option maxHeartbeats 4000000 in
set_option maxRecDepth 100000 in
theorem lp_X7_nextOf_2 {E : EN} {x1 : Int32} {Qf : PST} {Q : Int32 → (Nat → Nat → Int32) → Prop} {K : Int32 → (Nat → Nat → Int32) → Prop} (hQ : ∀ x M, Q x M → Qf (some (.int x)) σM 10 M) (hK : ∀ (z2 : Int32) (M : Nat → Nat → Int32), K z2 M → WP E iX7_nextOf 2 0 0 false 46 [] [] σM 10 M Qf) : ∀ (nn : Nat) (x2 : Int32) (M : Nat → Nat → Int32), w_X7_nextOf_2 nn x1 x2 M Q K → WP E iX7_nextOf 2 0 0 false 2 [(0, .ref 0), (1, .int x1), (2, .int x2)] [] σM 10 M Qf := by
  intro nn
  induction nn with
  | zero => intro x2 M hs; exact hs.elim
  | succ n ih =>
    intro x2 M hs
    unfold w_X7_nextOf_2 at hs
    refine wp_iload_n 2 dX7_nextOf_2 rfl ?_
    refine wp_aload_n 0 dX7_nextOf_3 rfl ?_
    refine wp_get (v := .ref 1) dX7_nextOf_4 rfl (by decide) rfl in_X7_nextOf_X7 0 (by decide) fl_X7_nextOf_7 rfl rfl ?_
    refine wp_iconst (v := (nI 0)) dX7_nextOf_7 (by decide) ?_
    refine wp_iald rfl (by decide) (vil rfl) dX7_nextOf_8 ?_
    refine wp_icmp_ge (tgt := 46) dX7_nextOf_9 (by decide) (fun c1 => ?_) (fun c1 => ?_)
    · have hs := hs.1 c1
      refine wp_sub (ls' := []) [] rfl ?_
      exact hK _ _ hs
    · have hs := hs.2 c1
      refine wp_aload_n 0 dX7_nextOf_12 rfl ?_
      refine wp_get (v := .ref 8) dX7_nextOf_13 rfl (by decide) rfl in_X7_nextOf_X7 11 (by decide) fl_X7_nextOf_31 rfl rfl ?_
      refine wp_iload_n 1 dX7_nextOf_16 rfl ?_
      have hv := hs.1
      have hs := hs.2
      refine wp_iald rfl (by decide) hv dX7_nextOf_17 ?_
      refine wp_iload_n 2 dX7_nextOf_18 rfl ?_
      refine wp_cSi (As := [.int (M 8 x1.toNatClampNeg), .int x2]) (st := []) (mw_X7_has  hs) gX7_nextOf_X7_has rfl hy_X7_has rfl (by decide) (by decide) (Nat.le_of_ble_eq_true rfl) rfl dX7_nextOf_19 (fun v3 M2 hs => ?_)
      refine wp_if_eq (tgt := 40) dX7_nextOf_22 (by decide) (fun c4 => ?_) (fun c4 => ?_)
      · have hs := hs.1 c4
        obtain ⟨y5, ey5⟩ : ∃ y : Int32, y = x2 + (nI 1) := ⟨_, rfl⟩
        have hs := hs y5 ey5
        refine wp_iinc (v := y5) (ls' := [(0, .ref 0), (1, .int x1), (2, .int y5)]) 2 [1, 2, 0] dX7_nextOf_40 rfl (by rw [ey5]; rfl) rfl (by decide) ?_
        refine wp_goto (tgt := 2) dX7_nextOf_43 (by decide) ?_
        refine wp_sub (ls' := [(0, .ref 0), (1, .int x1), (2, .int y5)]) [0, 1, 2] rfl ?_
        exact ih _ _ hs
      · have hs := hs.2 c4
        refine wp_aload_n 0 dX7_nextOf_25 rfl ?_
        refine wp_get (v := .ref 9) dX7_nextOf_26 rfl (by decide) rfl in_X7_nextOf_X7 12 (by decide) fl_X7_nextOf_34 rfl rfl ?_
        refine wp_iload_n 1 dX7_nextOf_29 rfl ?_
        refine wp_iconst (v := (nI 1)) dX7_nextOf_30 (by decide) ?_
        refine wp_iload_n 2 dX7_nextOf_31 rfl ?_
        refine wp_ishl dX7_nextOf_32 ?_
        refine wp_ior dX7_nextOf_33 ?_
        have hv := hs.1
        have hs := hs.2
        refine wp_iald rfl (by decide) hv dX7_nextOf_34 ?_
        refine wp_if_le (tgt := 40) dX7_nextOf_35 (by decide) (fun c6 => ?_) (fun c6 => ?_)
        · have hs := hs.1 c6
          obtain ⟨y7, ey7⟩ : ∃ y : Int32, y = x2 + (nI 1) := ⟨_, rfl⟩
          have hs := hs y7 ey7
          refine wp_iinc (v := y7) (ls' := [(0, .ref 0), (1, .int x1), (2, .int y7)]) 2 [1, 2, 0] dX7_nextOf_40 rfl (by rw [ey7]; rfl) rfl (by decide) ?_
          refine wp_goto (tgt := 2) dX7_nextOf_43 (by decide) ?_
          refine wp_sub (ls' := [(0, .ref 0), (1, .int x1), (2, .int y7)]) [0, 1, 2] rfl ?_
          exact ih _ _ hs
        · have hs := hs.2 c6
          refine wp_iload_n 2 dX7_nextOf_38 rfl ?_
          exact wp_ireturn rfl rfl dX7_nextOf_39 (hQ _ _ hs)
def w_X7_nextOf (a : Int32) (M : Nat → Nat → Int32) (Q : Int32 → (Nat → Nat → Int32) → Prop) : Prop := w_X7_nextOf_2 FU a (nI 0) M Q (fun y8 M9 => Q (-1005 : Int32) M9)
set_option maxHeartbeats 4000000 in
set_option maxRecDepth 100000 in
theorem mw_X7_nextOf {E : EN} {a : Int32} {M : Nat → Nat → Int32} {Q : Int32 → (Nat → Nat → Int32) → Prop} (hs : w_X7_nextOf a M Q) : MW E iX7_nextOf 2 0 0 false [.ref 0, .int a] σM 10 M (qI σM 10 Q) := by
  refine mw_intro (ls := [(0, .ref 0), (1, .int a)]) rfl (by decide +kernel) rfl rfl (Nat.le_of_ble_eq_true rfl) ?_
  have hQ : ∀ x M, Q x M → (qI σM 10 Q) (some (.int x)) σM 10 M := fun _ _ h => ⟨_, rfl, rfl, rfl, h⟩
  generalize (qI σM 10 Q) = Qf at hQ ⊢
  unfold w_X7_nextOf at hs
  refine wp_iconst (v := (nI 0)) dX7_nextOf_0 (by decide) ?_
  refine wp_istore_n (ls' := [(0, .ref 0), (1, .int a), (2, .int (nI 0))]) [1, 2, 0] dX7_nextOf_1 rfl (by decide) ?_
  refine wp_sub (ls' := [(0, .ref 0), (1, .int a), (2, .int (nI 0))]) [0, 1, 2] rfl ?_
  refine lp_X7_nextOf_2 hQ (K := fun y8 M9 => Q (-1005 : Int32) M9) (fun y8 M9 hs => ?_) FU _ _ hs
  refine wp_sipush (v := (-1005 : Int32)) dX7_nextOf_46 (by decide) ?_
  exact wp_ireturn rfl rfl dX7_nextOf_49 (hQ _ _ hs)
abbrev iX7_turnings : MI := (cX7_turnings, 5, some .int, RX7, yX7_turnings, wsX7_turnings)
theorem hy_X7_turnings : yX7_turnings.cls = RX7 ∧ yX7_turnings.cls ≠ "java/lang/invoke/MethodHandle" ∧ yX7_turnings.cls ≠ "java/lang/invoke/VarHandle" ∧ (parseMethodDescriptor yX7_turnings.desc).map (fun d => d.parameters.length) = some 0 := by decide +kernel
theorem in_X7_turnings_X7 : ∀ w ∈ u_ws RX7 TX7 13, w ∈ wsX7_turnings := by decide +kernel
theorem fl_X7_turnings_7 : Cond.fieldLink RX7 7 (TX7 0).1 (TX7 0).2.1 (TX7 0).2.2.1 ∈ wsX7_turnings := by decide +kernel
def w_X7_turnings_29 : Nat → Int32 → Int32 → Int32 → (Nat → Nat → Int32) → (Int32 → Int32 → Int32 → (Nat → Nat → Int32) → Prop) → Prop
  | 0, _, _, _, _, _ => False
  | n + 1, x1, x2, x3, M, K => w_X7_all M (fun v7 M6 => ((x3 = v7 → K x1 x2 x3 M6) ∧ (¬ x3 = v7 → w_X7_nextOf x3 M6 (fun v10 M9 => w_X7_isUp v10 x2 M9 (fun v12 M11 => ((v12 = 0 → ∀ y14 : Int32, y14 = (x1 + (nI 1)) → (vp_in ((nI 9) + v10) 23 ∧ ∀ y15 : Int32, y15 = ((nI 1) - (M11 1 ((nI 9) + v10).toNatClampNeg)) → ∀ y16 : Int32, y16 = (x3 ||| ((nI 1) <<< (v10 &&& 31))) → w_X7_turnings_29 n y14 y15 y16 M11 K)) ∧ (¬ v12 = 0 → ∀ y17 : Int32, y17 = (x1 + (nI 0)) → (vp_in ((nI 9) + v10) 23 ∧ ∀ y18 : Int32, y18 = ((nI 1) - (M11 1 ((nI 9) + v10).toNatClampNeg)) → ∀ y19 : Int32, y19 = (x3 ||| ((nI 1) <<< (v10 &&& 31))) → w_X7_turnings_29 n y17 y18 y19 M11 K))))))))
set_option maxHeartbeats 4000000 in
set_option maxRecDepth 100000 in
theorem lp_X7_turnings_29 {E : EN} {Qf : PST} {K : Int32 → Int32 → Int32 → (Nat → Nat → Int32) → Prop} (hK : ∀ (z1 : Int32) (z2 : Int32) (z3 : Int32) (M : Nat → Nat → Int32), K z1 z2 z3 M → WP E iX7_turnings 8 0 0 false 85 [(1, .int z1)] [] σM 10 M Qf) : ∀ (nn : Nat) (x1 : Int32) (x2 : Int32) (x3 : Int32) (M : Nat → Nat → Int32), w_X7_turnings_29 nn x1 x2 x3 M K → WP E iX7_turnings 8 0 0 false 29 [(0, .ref 0), (1, .int x1), (2, .int x2), (3, .int x3)] [] σM 10 M Qf := by
  intro nn
  induction nn with
  | zero => intro x1 x2 x3 M hs; exact hs.elim
  | succ n ih =>
    intro x1 x2 x3 M hs
    unfold w_X7_turnings_29 at hs
    refine wp_iload_n 3 dX7_turnings_29 rfl ?_
    refine wp_aload_n 0 dX7_turnings_30 rfl ?_
    refine wp_cVi (As := []) (st := [.int x3]) (mw_X7_all  hs) gX7_turnings_X7_all rfl hy_X7_all rfl rfl (by decide) rfl (by decide) (by decide) (Nat.le_of_ble_eq_true rfl) rfl dX7_turnings_31 (fun v7 M6 hs => ?_)
    refine wp_icmp_eq (tgt := 85) dX7_turnings_34 (by decide) (fun c8 => ?_) (fun c8 => ?_)
    · have hs := hs.1 c8
      refine wp_sub (ls' := [(1, .int x1)]) [1] rfl ?_
      exact hK _ _ _ _ hs
    · have hs := hs.2 c8
      refine wp_aload_n 0 dX7_turnings_37 rfl ?_
      refine wp_iload_n 3 dX7_turnings_38 rfl ?_
      refine wp_cVi (As := [.int x3]) (st := []) (mw_X7_nextOf  hs) gX7_turnings_X7_nextOf rfl hy_X7_nextOf rfl rfl (by decide) rfl (by decide) (by decide) (Nat.le_of_ble_eq_true rfl) rfl dX7_turnings_39 (fun v10 M9 hs => ?_)
      refine wp_istore (ls' := [(0, .ref 0), (1, .int x1), (2, .int x2), (3, .int x3), (4, .int v10)]) [1, 2, 3, 4, 0] dX7_turnings_42 rfl (by decide) ?_
      refine wp_iload_n 1 dX7_turnings_44 rfl ?_
      refine wp_aload_n 0 dX7_turnings_45 rfl ?_
      refine wp_iload 4 dX7_turnings_46 rfl ?_
      refine wp_iload_n 2 dX7_turnings_48 rfl ?_
      refine wp_cVi (As := [.int v10, .int x2]) (st := [.int x1]) (mw_X7_isUp  hs) gX7_turnings_X7_isUp rfl hy_X7_isUp rfl rfl (by decide) rfl (by decide) (by decide) (Nat.le_of_ble_eq_true rfl) rfl dX7_turnings_49 (fun v12 M11 hs => ?_)
      refine wp_if_eq (tgt := 59) dX7_turnings_52 (by decide) (fun c13 => ?_) (fun c13 => ?_)
      · have hs := hs.1 c13
        refine wp_iconst (v := (nI 1)) dX7_turnings_59 (by decide) ?_
        refine wp_iadd dX7_turnings_60 ?_
        refine wp_topi (fun y14 ey14 => ?_)
        have hs := hs y14 ey14
        refine wp_istore_n (ls' := [(0, .ref 0), (1, .int y14), (2, .int x2), (3, .int x3), (4, .int v10)]) [1, 0, 2, 3, 4] dX7_turnings_61 rfl (by decide) ?_
        refine wp_iconst (v := (nI 1)) dX7_turnings_62 (by decide) ?_
        refine wp_aload_n 0 dX7_turnings_63 rfl ?_
        refine wp_get (v := .ref 1) dX7_turnings_64 rfl (by decide) rfl in_X7_turnings_X7 0 (by decide) fl_X7_turnings_7 rfl rfl ?_
        refine wp_bipush (v := (nI 9)) dX7_turnings_67 (by decide) ?_
        refine wp_iload 4 dX7_turnings_69 rfl ?_
        refine wp_iadd dX7_turnings_71 ?_
        have hv := hs.1
        have hs := hs.2
        refine wp_iald rfl (by decide) hv dX7_turnings_72 ?_
        refine wp_isub dX7_turnings_73 ?_
        refine wp_topi (fun y15 ey15 => ?_)
        have hs := hs y15 ey15
        refine wp_istore_n (ls' := [(0, .ref 0), (1, .int y14), (2, .int y15), (3, .int x3), (4, .int v10)]) [1, 2, 0, 3, 4] dX7_turnings_74 rfl (by decide) ?_
        refine wp_iload_n 3 dX7_turnings_75 rfl ?_
        refine wp_iconst (v := (nI 1)) dX7_turnings_76 (by decide) ?_
        refine wp_iload 4 dX7_turnings_77 rfl ?_
        refine wp_ishl dX7_turnings_79 ?_
        refine wp_ior dX7_turnings_80 ?_
        refine wp_topi (fun y16 ey16 => ?_)
        have hs := hs y16 ey16
        refine wp_istore_n (ls' := [(0, .ref 0), (1, .int y14), (2, .int y15), (3, .int y16), (4, .int v10)]) [1, 2, 3, 0, 4] dX7_turnings_81 rfl (by decide) ?_
        refine wp_goto (tgt := 29) dX7_turnings_82 (by decide) ?_
        refine wp_sub (ls' := [(0, .ref 0), (1, .int y14), (2, .int y15), (3, .int y16)]) [0, 1, 2, 3] rfl ?_
        exact ih _ _ _ _ hs
      · have hs := hs.2 c13
        refine wp_iconst (v := (nI 0)) dX7_turnings_55 (by decide) ?_
        refine wp_goto (tgt := 60) dX7_turnings_56 (by decide) ?_
        refine wp_iadd dX7_turnings_60 ?_
        refine wp_topi (fun y17 ey17 => ?_)
        have hs := hs y17 ey17
        refine wp_istore_n (ls' := [(0, .ref 0), (1, .int y17), (2, .int x2), (3, .int x3), (4, .int v10)]) [1, 0, 2, 3, 4] dX7_turnings_61 rfl (by decide) ?_
        refine wp_iconst (v := (nI 1)) dX7_turnings_62 (by decide) ?_
        refine wp_aload_n 0 dX7_turnings_63 rfl ?_
        refine wp_get (v := .ref 1) dX7_turnings_64 rfl (by decide) rfl in_X7_turnings_X7 0 (by decide) fl_X7_turnings_7 rfl rfl ?_
        refine wp_bipush (v := (nI 9)) dX7_turnings_67 (by decide) ?_
        refine wp_iload 4 dX7_turnings_69 rfl ?_
        refine wp_iadd dX7_turnings_71 ?_
        have hv := hs.1
        have hs := hs.2
        refine wp_iald rfl (by decide) hv dX7_turnings_72 ?_
        refine wp_isub dX7_turnings_73 ?_
        refine wp_topi (fun y18 ey18 => ?_)
        have hs := hs y18 ey18
        refine wp_istore_n (ls' := [(0, .ref 0), (1, .int y17), (2, .int y18), (3, .int x3), (4, .int v10)]) [1, 2, 0, 3, 4] dX7_turnings_74 rfl (by decide) ?_
        refine wp_iload_n 3 dX7_turnings_75 rfl ?_
        refine wp_iconst (v := (nI 1)) dX7_turnings_76 (by decide) ?_
        refine wp_iload 4 dX7_turnings_77 rfl ?_
        refine wp_ishl dX7_turnings_79 ?_
        refine wp_ior dX7_turnings_80 ?_
        refine wp_topi (fun y19 ey19 => ?_)
        have hs := hs y19 ey19
        refine wp_istore_n (ls' := [(0, .ref 0), (1, .int y17), (2, .int y18), (3, .int y19), (4, .int v10)]) [1, 2, 3, 0, 4] dX7_turnings_81 rfl (by decide) ?_
        refine wp_goto (tgt := 29) dX7_turnings_82 (by decide) ?_
        refine wp_sub (ls' := [(0, .ref 0), (1, .int y17), (2, .int y18), (3, .int y19)]) [0, 1, 2, 3] rfl ?_
        exact ih _ _ _ _ hs
def w_X7_turnings (M : Nat → Nat → Int32) (Q : Int32 → (Nat → Nat → Int32) → Prop) : Prop := w_X7_allOrders M (fun v2 M1 => ((¬ v2 = 0 → ∀ y4 : Int32, y4 = (M1 1 17) → ∀ y5 : Int32, y5 = (M1 1 16) → w_X7_turnings_29 FU (nI 0) y4 y5 M1 (fun y20 y21 y22 M23 => Q y20 M23)) ∧ (v2 = 0 → Q (-1005 : Int32) M1)))
set_option maxHeartbeats 4000000 in
set_option maxRecDepth 100000 in
theorem mw_X7_turnings {E : EN} {M : Nat → Nat → Int32} {Q : Int32 → (Nat → Nat → Int32) → Prop} (hs : w_X7_turnings M Q) : MW E iX7_turnings 8 0 0 false [.ref 0] σM 10 M (qI σM 10 Q) := by
  refine mw_intro (ls := [(0, .ref 0)]) rfl (by decide +kernel) rfl rfl (Nat.le_of_ble_eq_true rfl) ?_
  have hQ : ∀ x M, Q x M → (qI σM 10 Q) (some (.int x)) σM 10 M := fun _ _ h => ⟨_, rfl, rfl, rfl, h⟩
  generalize (qI σM 10 Q) = Qf at hQ ⊢
  unfold w_X7_turnings at hs
  refine wp_aload_n 0 dX7_turnings_0 rfl ?_
  refine wp_cVi (As := []) (st := []) (mw_X7_allOrders  hs) gX7_turnings_X7_allOrders rfl hy_X7_allOrders rfl rfl (by decide) rfl (by decide) (by decide) (Nat.le_of_ble_eq_true rfl) rfl dX7_turnings_1 (fun v2 M1 hs => ?_)
  refine wp_if_ne (tgt := 11) dX7_turnings_4 (by decide) (fun c3 => ?_) (fun c3 => ?_)
  · have hs := hs.1 c3
    refine wp_iconst (v := (nI 0)) dX7_turnings_11 (by decide) ?_
    refine wp_istore_n (ls' := [(0, .ref 0), (1, .int (nI 0))]) [1, 0] dX7_turnings_12 rfl (by decide) ?_
    refine wp_aload_n 0 dX7_turnings_13 rfl ?_
    refine wp_get (v := .ref 1) dX7_turnings_14 rfl (by decide) rfl in_X7_turnings_X7 0 (by decide) fl_X7_turnings_7 rfl rfl ?_
    refine wp_bipush (v := (nI 17)) dX7_turnings_17 (by decide) ?_
    refine wp_iald rfl (by decide) (vil rfl) dX7_turnings_19 ?_
    refine wp_topi (fun y4 ey4 => ?_)
    have hs := hs y4 ey4
    refine wp_istore_n (ls' := [(0, .ref 0), (1, .int (nI 0)), (2, .int y4)]) [1, 2, 0] dX7_turnings_20 rfl (by decide) ?_
    refine wp_aload_n 0 dX7_turnings_21 rfl ?_
    refine wp_get (v := .ref 1) dX7_turnings_22 rfl (by decide) rfl in_X7_turnings_X7 0 (by decide) fl_X7_turnings_7 rfl rfl ?_
    refine wp_bipush (v := (nI 16)) dX7_turnings_25 (by decide) ?_
    refine wp_iald rfl (by decide) (vil rfl) dX7_turnings_27 ?_
    refine wp_topi (fun y5 ey5 => ?_)
    have hs := hs y5 ey5
    refine wp_istore_n (ls' := [(0, .ref 0), (1, .int (nI 0)), (2, .int y4), (3, .int y5)]) [1, 2, 3, 0] dX7_turnings_28 rfl (by decide) ?_
    refine wp_sub (ls' := [(0, .ref 0), (1, .int (nI 0)), (2, .int y4), (3, .int y5)]) [0, 1, 2, 3] rfl ?_
    refine lp_X7_turnings_29 (K := fun y20 y21 y22 M23 => Q y20 M23) (fun y20 y21 y22 M23 hs => ?_) FU _ _ _ _ hs
    refine wp_iload_n 0 dX7_turnings_85 rfl ?_
    exact wp_ireturn rfl rfl dX7_turnings_86 (hQ _ _ hs)
  · have hs := hs.2 c3
    refine wp_sipush (v := (-1005 : Int32)) dX7_turnings_7 (by decide) ?_
    exact wp_ireturn rfl rfl dX7_turnings_10 (hQ _ _ hs)
abbrev iX7_puts : MI := (cX7_puts, 4, some .int, RX7, yX7_puts, wsX7_puts)
theorem hy_X7_puts : yX7_puts.cls = RX7 ∧ yX7_puts.cls ≠ "java/lang/invoke/MethodHandle" ∧ yX7_puts.cls ≠ "java/lang/invoke/VarHandle" ∧ (parseMethodDescriptor yX7_puts.desc).map (fun d => d.parameters.length) = some 2 := by decide +kernel
theorem in_X7_puts_X7 : ∀ w ∈ u_ws RX7 TX7 13, w ∈ wsX7_puts := by decide +kernel
theorem fl_X7_puts_7 : Cond.fieldLink RX7 7 (TX7 0).1 (TX7 0).2.1 (TX7 0).2.2.1 ∈ wsX7_puts := by decide +kernel
def w_X7_puts (a : Int32) (b : Int32) (M : Nat → Nat → Int32) (Q : Int32 → (Nat → Nat → Int32) → Prop) : Prop := (vp_in a 23 ∧ ∀ y1 : Int32, y1 = (M 1 a.toNatClampNeg) → (vp_in a 23 ∧ ∀ M2 : Nat → Nat → Int32, M2 = um M 1 (upd (M 1) a.toNatClampNeg b) → Q y1 M2))
set_option maxHeartbeats 4000000 in
set_option maxRecDepth 100000 in
theorem mw_X7_puts {E : EN} {a : Int32} {b : Int32} {M : Nat → Nat → Int32} {Q : Int32 → (Nat → Nat → Int32) → Prop} (hs : w_X7_puts a b M Q) : MW E iX7_puts 1 0 0 false [.ref 0, .int a, .int b] σM 10 M (qI σM 10 Q) := by
  refine mw_intro (ls := [(0, .ref 0), (1, .int a), (2, .int b)]) rfl (by decide +kernel) rfl rfl (Nat.le_of_ble_eq_true rfl) ?_
  have hQ : ∀ x M, Q x M → (qI σM 10 Q) (some (.int x)) σM 10 M := fun _ _ h => ⟨_, rfl, rfl, rfl, h⟩
  generalize (qI σM 10 Q) = Qf at hQ ⊢
  unfold w_X7_puts at hs
  refine wp_aload_n 0 dX7_puts_0 rfl ?_
  refine wp_get (v := .ref 1) dX7_puts_1 rfl (by decide) rfl in_X7_puts_X7 0 (by decide) fl_X7_puts_7 rfl rfl ?_
  refine wp_iload_n 1 dX7_puts_4 rfl ?_
  have hv := hs.1
  have hs := hs.2
  refine wp_iald rfl (by decide) hv dX7_puts_5 ?_
  refine wp_topi (fun y1 ey1 => ?_)
  have hs := hs y1 ey1
  refine wp_istore_n (ls' := [(0, .ref 0), (1, .int a), (2, .int b), (3, .int y1)]) [1, 2, 3, 0] dX7_puts_6 rfl (by decide) ?_
  refine wp_aload_n 0 dX7_puts_7 rfl ?_
  refine wp_get (v := .ref 1) dX7_puts_8 rfl (by decide) rfl in_X7_puts_X7 0 (by decide) fl_X7_puts_7 rfl rfl ?_
  refine wp_iload_n 1 dX7_puts_11 rfl ?_
  refine wp_iload_n 2 dX7_puts_12 rfl ?_
  have hv := hs.1
  have hs := hs.2
  refine wp_iast rfl (by decide) hv dX7_puts_13 (fun M2 eM2 => ?_)
  have hs := hs M2 eM2
  refine wp_iload_n 3 dX7_puts_14 rfl ?_
  exact wp_ireturn rfl rfl dX7_puts_15 (hQ _ _ hs)
abbrev iX7_setLength : MI := (cX7_setLength, 3, some .int, RX7, yX7_setLength, wsX7_setLength)
theorem hy_X7_setLength : yX7_setLength.cls = RX7 ∧ yX7_setLength.cls ≠ "java/lang/invoke/MethodHandle" ∧ yX7_setLength.cls ≠ "java/lang/invoke/VarHandle" ∧ (parseMethodDescriptor yX7_setLength.desc).map (fun d => d.parameters.length) = some 2 := by decide +kernel
theorem in_X7_setLength_X7 : ∀ w ∈ u_ws RX7 TX7 13, w ∈ wsX7_setLength := by decide +kernel
theorem fl_X7_setLength_7 : Cond.fieldLink RX7 7 (TX7 0).1 (TX7 0).2.1 (TX7 0).2.2.1 ∈ wsX7_setLength := by decide +kernel
def w_X7_setLength (a : Int32) (b : Int32) (M : Nat → Nat → Int32) (Q : Int32 → (Nat → Nat → Int32) → Prop) : Prop := w_X7_isFlange a M (fun v2 M1 => ((¬ v2 = 0 → w_X7_in b (nI 1) (nI 9) M1 (fun v5 M4 => ((¬ v5 = 0 → (((M4 1 16) = 0 → (vp_in ((nI 1) + a) 23 ∧ ((¬ (M4 1 ((nI 1) + a).toNatClampNeg) = b → w_X7_know M4 (fun M9 => w_X7_puts ((nI 1) + a) b M9 (fun v11 M10 => Q v11 M10))) ∧ ((M4 1 ((nI 1) + a).toNatClampNeg) = b → Q (-1005 : Int32) M4)))) ∧ (¬ (M4 1 16) = 0 → Q (-1004 : Int32) M4))) ∧ (v5 = 0 → Q (-1002 : Int32) M4)))) ∧ (v2 = 0 → Q (-1001 : Int32) M1)))
set_option maxHeartbeats 4000000 in
set_option maxRecDepth 100000 in
theorem mw_X7_setLength {E : EN} {a : Int32} {b : Int32} {M : Nat → Nat → Int32} {Q : Int32 → (Nat → Nat → Int32) → Prop} (hs : w_X7_setLength a b M Q) : MW E iX7_setLength 3 0 0 false [.ref 0, .int a, .int b] σM 10 M (qI σM 10 Q) := by
  refine mw_intro (ls := [(0, .ref 0), (1, .int a), (2, .int b)]) rfl (by decide +kernel) rfl rfl (Nat.le_of_ble_eq_true rfl) ?_
  have hQ : ∀ x M, Q x M → (qI σM 10 Q) (some (.int x)) σM 10 M := fun _ _ h => ⟨_, rfl, rfl, rfl, h⟩
  generalize (qI σM 10 Q) = Qf at hQ ⊢
  unfold w_X7_setLength at hs
  refine wp_aload_n 0 dX7_setLength_0 rfl ?_
  refine wp_iload_n 1 dX7_setLength_1 rfl ?_
  refine wp_cVi (As := [.int a]) (st := []) (mw_X7_isFlange  hs) gX7_setLength_X7_isFlange rfl hy_X7_isFlange rfl rfl (by decide) rfl (by decide) (by decide) (Nat.le_of_ble_eq_true rfl) rfl dX7_setLength_2 (fun v2 M1 hs => ?_)
  refine wp_if_ne (tgt := 12) dX7_setLength_5 (by decide) (fun c3 => ?_) (fun c3 => ?_)
  · have hs := hs.1 c3
    refine wp_iload_n 2 dX7_setLength_12 rfl ?_
    refine wp_iconst (v := (nI 1)) dX7_setLength_13 (by decide) ?_
    refine wp_bipush (v := (nI 9)) dX7_setLength_14 (by decide) ?_
    refine wp_cSi (As := [.int b, .int (nI 1), .int (nI 9)]) (st := []) (mw_X7_in  hs) gX7_setLength_X7_in rfl hy_X7_in rfl (by decide) (by decide) (Nat.le_of_ble_eq_true rfl) rfl dX7_setLength_16 (fun v5 M4 hs => ?_)
    refine wp_if_ne (tgt := 26) dX7_setLength_19 (by decide) (fun c6 => ?_) (fun c6 => ?_)
    · have hs := hs.1 c6
      refine wp_aload_n 0 dX7_setLength_26 rfl ?_
      refine wp_get (v := .ref 1) dX7_setLength_27 rfl (by decide) rfl in_X7_setLength_X7 0 (by decide) fl_X7_setLength_7 rfl rfl ?_
      refine wp_bipush (v := (nI 16)) dX7_setLength_30 (by decide) ?_
      refine wp_iald rfl (by decide) (vil rfl) dX7_setLength_32 ?_
      refine wp_if_eq (tgt := 40) dX7_setLength_33 (by decide) (fun c7 => ?_) (fun c7 => ?_)
      · have hs := hs.1 c7
        refine wp_aload_n 0 dX7_setLength_40 rfl ?_
        refine wp_get (v := .ref 1) dX7_setLength_41 rfl (by decide) rfl in_X7_setLength_X7 0 (by decide) fl_X7_setLength_7 rfl rfl ?_
        refine wp_iconst (v := (nI 1)) dX7_setLength_44 (by decide) ?_
        refine wp_iload_n 1 dX7_setLength_45 rfl ?_
        refine wp_iadd dX7_setLength_46 ?_
        have hv := hs.1
        have hs := hs.2
        refine wp_iald rfl (by decide) hv dX7_setLength_47 ?_
        refine wp_iload_n 2 dX7_setLength_48 rfl ?_
        refine wp_icmp_ne (tgt := 56) dX7_setLength_49 (by decide) (fun c8 => ?_) (fun c8 => ?_)
        · have hs := hs.1 c8
          refine wp_aload_n 0 dX7_setLength_56 rfl ?_
          refine wp_cVv (As := []) (st := []) (mw_X7_know  hs) gX7_setLength_X7_know rfl hy_X7_know rfl rfl (by decide) rfl (by decide) (by decide) (Nat.le_of_ble_eq_true rfl) rfl dX7_setLength_57 (fun  M9 hs => ?_)
          refine wp_aload_n 0 dX7_setLength_60 rfl ?_
          refine wp_iconst (v := (nI 1)) dX7_setLength_61 (by decide) ?_
          refine wp_iload_n 1 dX7_setLength_62 rfl ?_
          refine wp_iadd dX7_setLength_63 ?_
          refine wp_iload_n 2 dX7_setLength_64 rfl ?_
          refine wp_cVi (As := [.int ((nI 1) + a), .int b]) (st := []) (mw_X7_puts  hs) gX7_setLength_X7_puts rfl hy_X7_puts rfl rfl (by decide) rfl (by decide) (by decide) (Nat.le_of_ble_eq_true rfl) rfl dX7_setLength_65 (fun v11 M10 hs => ?_)
          exact wp_ireturn rfl rfl dX7_setLength_68 (hQ _ _ hs)
        · have hs := hs.2 c8
          refine wp_sipush (v := (-1005 : Int32)) dX7_setLength_52 (by decide) ?_
          exact wp_ireturn rfl rfl dX7_setLength_55 (hQ _ _ hs)
      · have hs := hs.2 c7
        refine wp_sipush (v := (-1004 : Int32)) dX7_setLength_36 (by decide) ?_
        exact wp_ireturn rfl rfl dX7_setLength_39 (hQ _ _ hs)
    · have hs := hs.2 c6
      refine wp_sipush (v := (-1002 : Int32)) dX7_setLength_22 (by decide) ?_
      exact wp_ireturn rfl rfl dX7_setLength_25 (hQ _ _ hs)
  · have hs := hs.2 c3
    refine wp_sipush (v := (-1001 : Int32)) dX7_setLength_8 (by decide) ?_
    exact wp_ireturn rfl rfl dX7_setLength_11 (hQ _ _ hs)
abbrev iX7_setUp : MI := (cX7_setUp, 5, some .int, RX7, yX7_setUp, wsX7_setUp)
theorem hy_X7_setUp : yX7_setUp.cls = RX7 ∧ yX7_setUp.cls ≠ "java/lang/invoke/MethodHandle" ∧ yX7_setUp.cls ≠ "java/lang/invoke/VarHandle" ∧ (parseMethodDescriptor yX7_setUp.desc).map (fun d => d.parameters.length) = some 2 := by decide +kernel
theorem in_X7_setUp_X7 : ∀ w ∈ u_ws RX7 TX7 13, w ∈ wsX7_setUp := by decide +kernel
theorem fl_X7_setUp_7 : Cond.fieldLink RX7 7 (TX7 0).1 (TX7 0).2.1 (TX7 0).2.2.1 ∈ wsX7_setUp := by decide +kernel
def w_X7_setUp_79 : Nat → Int32 → Int32 → (Nat → Nat → Int32) → (Int32 → Int32 → (Nat → Nat → Int32) → Prop) → Prop
  | 0, _, _, _, _ => False
  | n + 1, x3, x4, M, K => (((M 1 0) ≤ x4 → K x3 x4 M) ∧ (¬ (M 1 0) ≤ x4 → (vp_in ((nI 9) + x4) 23 ∧ ∀ y11 : Int32, y11 = (x3 + (M 1 ((nI 9) + x4).toNatClampNeg)) → ∀ y12 : Int32, y12 = x4 + (nI 1) → w_X7_setUp_79 n y11 y12 M K)))
set_option maxHeartbeats 4000000 in
set_option maxRecDepth 100000 in
theorem lp_X7_setUp_79 {E : EN} {Qf : PST} {K : Int32 → Int32 → (Nat → Nat → Int32) → Prop} (hK : ∀ (z3 : Int32) (z4 : Int32) (M : Nat → Nat → Int32), K z3 z4 M → WP E iX7_setUp 3 0 0 false 109 [(3, .int z3)] [] σM 10 M Qf) : ∀ (nn : Nat) (x3 : Int32) (x4 : Int32) (M : Nat → Nat → Int32), w_X7_setUp_79 nn x3 x4 M K → WP E iX7_setUp 3 0 0 false 79 [(0, .ref 0), (3, .int x3), (4, .int x4)] [] σM 10 M Qf := by
  intro nn
  induction nn with
  | zero => intro x3 x4 M hs; exact hs.elim
  | succ n ih =>
    intro x3 x4 M hs
    unfold w_X7_setUp_79 at hs
    refine wp_iload 2 dX7_setUp_79 rfl ?_
    refine wp_aload_n 0 dX7_setUp_81 rfl ?_
    refine wp_get (v := .ref 1) dX7_setUp_82 rfl (by decide) rfl in_X7_setUp_X7 0 (by decide) fl_X7_setUp_7 rfl rfl ?_
    refine wp_iconst (v := (nI 0)) dX7_setUp_85 (by decide) ?_
    refine wp_iald rfl (by decide) (vil rfl) dX7_setUp_86 ?_
    refine wp_icmp_ge (tgt := 109) dX7_setUp_87 (by decide) (fun c10 => ?_) (fun c10 => ?_)
    · have hs := hs.1 c10
      refine wp_sub (ls' := [(3, .int x3)]) [1] rfl ?_
      exact hK _ _ _ hs
    · have hs := hs.2 c10
      refine wp_iload_n 1 dX7_setUp_90 rfl ?_
      refine wp_aload_n 0 dX7_setUp_91 rfl ?_
      refine wp_get (v := .ref 1) dX7_setUp_92 rfl (by decide) rfl in_X7_setUp_X7 0 (by decide) fl_X7_setUp_7 rfl rfl ?_
      refine wp_bipush (v := (nI 9)) dX7_setUp_95 (by decide) ?_
      refine wp_iload 2 dX7_setUp_97 rfl ?_
      refine wp_iadd dX7_setUp_99 ?_
      have hv := hs.1
      have hs := hs.2
      refine wp_iald rfl (by decide) hv dX7_setUp_100 ?_
      refine wp_iadd dX7_setUp_101 ?_
      refine wp_topi (fun y11 ey11 => ?_)
      have hs := hs y11 ey11
      refine wp_istore_n (ls' := [(0, .ref 0), (3, .int y11), (4, .int x4)]) [1, 0, 2] dX7_setUp_102 rfl (by decide) ?_
      obtain ⟨y12, ey12⟩ : ∃ y : Int32, y = x4 + (nI 1) := ⟨_, rfl⟩
      have hs := hs y12 ey12
      refine wp_iinc (v := y12) (ls' := [(0, .ref 0), (3, .int y11), (4, .int y12)]) 2 [1, 2, 0] dX7_setUp_103 rfl (by rw [ey12]; rfl) rfl (by decide) ?_
      refine wp_goto (tgt := 79) dX7_setUp_106 (by decide) ?_
      refine wp_sub (ls' := [(0, .ref 0), (3, .int y11), (4, .int y12)]) [0, 1, 2] rfl ?_
      exact ih _ _ _ hs
def w_X7_setUp (a : Int32) (b : Int32) (M : Nat → Nat → Int32) (Q : Int32 → (Nat → Nat → Int32) → Prop) : Prop := w_X7_isBend a M (fun v2 M1 => ((¬ v2 = 0 → (((M1 1 16) = 0 → (vp_in ((nI 9) + a) 23 ∧ ((¬ (M1 1 ((nI 9) + a).toNatClampNeg) = (nI 1) → ((¬ (nI 0) = b → w_X7_know M1 (fun M7 => ((b = 0 → (vp_in ((nI 9) + a) 23 ∧ ∀ M9 : Nat → Nat → Int32, M9 = um M7 1 (upd (M7 1) ((nI 9) + a).toNatClampNeg (nI 0)) → w_X7_setUp_79 FU (nI 0) (nI 0) M9 (fun y13 y14 M15 => Q y13 M15))) ∧ (¬ b = 0 → (vp_in ((nI 9) + a) 23 ∧ ∀ M16 : Nat → Nat → Int32, M16 = um M7 1 (upd (M7 1) ((nI 9) + a).toNatClampNeg (nI 1)) → w_X7_setUp_79 FU (nI 0) (nI 0) M16 (fun y17 y18 M19 => Q y17 M19)))))) ∧ ((nI 0) = b → Q (-1005 : Int32) M1))) ∧ ((M1 1 ((nI 9) + a).toNatClampNeg) = (nI 1) → ((¬ (nI 1) = b → w_X7_know M1 (fun M21 => ((b = 0 → (vp_in ((nI 9) + a) 23 ∧ ∀ M23 : Nat → Nat → Int32, M23 = um M21 1 (upd (M21 1) ((nI 9) + a).toNatClampNeg (nI 0)) → w_X7_setUp_79 FU (nI 0) (nI 0) M23 (fun y24 y25 M26 => Q y24 M26))) ∧ (¬ b = 0 → (vp_in ((nI 9) + a) 23 ∧ ∀ M27 : Nat → Nat → Int32, M27 = um M21 1 (upd (M21 1) ((nI 9) + a).toNatClampNeg (nI 1)) → w_X7_setUp_79 FU (nI 0) (nI 0) M27 (fun y28 y29 M30 => Q y28 M30)))))) ∧ ((nI 1) = b → Q (-1005 : Int32) M1)))))) ∧ (¬ (M1 1 16) = 0 → Q (-1004 : Int32) M1))) ∧ (v2 = 0 → Q (-1001 : Int32) M1)))
set_option maxHeartbeats 4000000 in
set_option maxRecDepth 100000 in
theorem mw_X7_setUp {E : EN} {a : Int32} {b : Int32} {M : Nat → Nat → Int32} {Q : Int32 → (Nat → Nat → Int32) → Prop} (hs : w_X7_setUp a b M Q) : MW E iX7_setUp 3 0 0 false [.ref 0, .int a, .int b] σM 10 M (qI σM 10 Q) := by
  refine mw_intro (ls := [(0, .ref 0), (1, .int a), (2, .int b)]) rfl (by decide +kernel) rfl rfl (Nat.le_of_ble_eq_true rfl) ?_
  have hQ : ∀ x M, Q x M → (qI σM 10 Q) (some (.int x)) σM 10 M := fun _ _ h => ⟨_, rfl, rfl, rfl, h⟩
  generalize (qI σM 10 Q) = Qf at hQ ⊢
  unfold w_X7_setUp at hs
  refine wp_aload_n 0 dX7_setUp_0 rfl ?_
  refine wp_iload_n 1 dX7_setUp_1 rfl ?_
  refine wp_cVi (As := [.int a]) (st := []) (mw_X7_isBend  hs) gX7_setUp_X7_isBend rfl hy_X7_isBend rfl rfl (by decide) rfl (by decide) (by decide) (Nat.le_of_ble_eq_true rfl) rfl dX7_setUp_2 (fun v2 M1 hs => ?_)
  refine wp_if_ne (tgt := 12) dX7_setUp_5 (by decide) (fun c3 => ?_) (fun c3 => ?_)
  · have hs := hs.1 c3
    refine wp_aload_n 0 dX7_setUp_12 rfl ?_
    refine wp_get (v := .ref 1) dX7_setUp_13 rfl (by decide) rfl in_X7_setUp_X7 0 (by decide) fl_X7_setUp_7 rfl rfl ?_
    refine wp_bipush (v := (nI 16)) dX7_setUp_16 (by decide) ?_
    refine wp_iald rfl (by decide) (vil rfl) dX7_setUp_18 ?_
    refine wp_if_eq (tgt := 26) dX7_setUp_19 (by decide) (fun c4 => ?_) (fun c4 => ?_)
    · have hs := hs.1 c4
      refine wp_aload_n 0 dX7_setUp_26 rfl ?_
      refine wp_get (v := .ref 1) dX7_setUp_27 rfl (by decide) rfl in_X7_setUp_X7 0 (by decide) fl_X7_setUp_7 rfl rfl ?_
      refine wp_bipush (v := (nI 9)) dX7_setUp_30 (by decide) ?_
      refine wp_iload_n 1 dX7_setUp_32 rfl ?_
      refine wp_iadd dX7_setUp_33 ?_
      have hv := hs.1
      have hs := hs.2
      refine wp_iald rfl (by decide) hv dX7_setUp_34 ?_
      refine wp_iconst (v := (nI 1)) dX7_setUp_35 (by decide) ?_
      refine wp_icmp_ne (tgt := 43) dX7_setUp_36 (by decide) (fun c5 => ?_) (fun c5 => ?_)
      · have hs := hs.1 c5
        refine wp_iconst (v := (nI 0)) dX7_setUp_43 (by decide) ?_
        refine wp_iload_n 2 dX7_setUp_44 rfl ?_
        refine wp_icmp_ne (tgt := 52) dX7_setUp_45 (by decide) (fun c6 => ?_) (fun c6 => ?_)
        · have hs := hs.1 c6
          refine wp_aload_n 0 dX7_setUp_52 rfl ?_
          refine wp_cVv (As := []) (st := []) (mw_X7_know  hs) gX7_setUp_X7_know rfl hy_X7_know rfl rfl (by decide) rfl (by decide) (by decide) (Nat.le_of_ble_eq_true rfl) rfl dX7_setUp_53 (fun  M7 hs => ?_)
          refine wp_aload_n 0 dX7_setUp_56 rfl ?_
          refine wp_get (v := .ref 1) dX7_setUp_57 rfl (by decide) rfl in_X7_setUp_X7 0 (by decide) fl_X7_setUp_7 rfl rfl ?_
          refine wp_bipush (v := (nI 9)) dX7_setUp_60 (by decide) ?_
          refine wp_iload_n 1 dX7_setUp_62 rfl ?_
          refine wp_iadd dX7_setUp_63 ?_
          refine wp_iload_n 2 dX7_setUp_64 rfl ?_
          refine wp_if_eq (tgt := 72) dX7_setUp_65 (by decide) (fun c8 => ?_) (fun c8 => ?_)
          · have hs := hs.1 c8
            refine wp_iconst (v := (nI 0)) dX7_setUp_72 (by decide) ?_
            have hv := hs.1
            have hs := hs.2
            refine wp_iast rfl (by decide) hv dX7_setUp_73 (fun M9 eM9 => ?_)
            have hs := hs M9 eM9
            refine wp_iconst (v := (nI 0)) dX7_setUp_74 (by decide) ?_
            refine wp_istore_n (ls' := [(0, .ref 0), (1, .int a), (2, .int b), (3, .int (nI 0))]) [1, 2, 3, 0] dX7_setUp_75 rfl (by decide) ?_
            refine wp_iconst (v := (nI 0)) dX7_setUp_76 (by decide) ?_
            refine wp_istore (ls' := [(0, .ref 0), (1, .int a), (2, .int b), (3, .int (nI 0)), (4, .int (nI 0))]) [1, 2, 3, 4, 0] dX7_setUp_77 rfl (by decide) ?_
            refine wp_sub (ls' := [(0, .ref 0), (3, .int (nI 0)), (4, .int (nI 0))]) [0, 3, 4] rfl ?_
            refine lp_X7_setUp_79 (K := fun y13 y14 M15 => Q y13 M15) (fun y13 y14 M15 hs => ?_) FU _ _ _ hs
            refine wp_iload_n 0 dX7_setUp_109 rfl ?_
            exact wp_ireturn rfl rfl dX7_setUp_110 (hQ _ _ hs)
          · have hs := hs.2 c8
            refine wp_iconst (v := (nI 1)) dX7_setUp_68 (by decide) ?_
            refine wp_goto (tgt := 73) dX7_setUp_69 (by decide) ?_
            have hv := hs.1
            have hs := hs.2
            refine wp_iast rfl (by decide) hv dX7_setUp_73 (fun M16 eM16 => ?_)
            have hs := hs M16 eM16
            refine wp_iconst (v := (nI 0)) dX7_setUp_74 (by decide) ?_
            refine wp_istore_n (ls' := [(0, .ref 0), (1, .int a), (2, .int b), (3, .int (nI 0))]) [1, 2, 3, 0] dX7_setUp_75 rfl (by decide) ?_
            refine wp_iconst (v := (nI 0)) dX7_setUp_76 (by decide) ?_
            refine wp_istore (ls' := [(0, .ref 0), (1, .int a), (2, .int b), (3, .int (nI 0)), (4, .int (nI 0))]) [1, 2, 3, 4, 0] dX7_setUp_77 rfl (by decide) ?_
            refine wp_sub (ls' := [(0, .ref 0), (3, .int (nI 0)), (4, .int (nI 0))]) [0, 3, 4] rfl ?_
            refine lp_X7_setUp_79 (K := fun y17 y18 M19 => Q y17 M19) (fun y17 y18 M19 hs => ?_) FU _ _ _ hs
            refine wp_iload_n 0 dX7_setUp_109 rfl ?_
            exact wp_ireturn rfl rfl dX7_setUp_110 (hQ _ _ hs)
        · have hs := hs.2 c6
          refine wp_sipush (v := (-1005 : Int32)) dX7_setUp_48 (by decide) ?_
          exact wp_ireturn rfl rfl dX7_setUp_51 (hQ _ _ hs)
      · have hs := hs.2 c5
        refine wp_iconst (v := (nI 1)) dX7_setUp_39 (by decide) ?_
        refine wp_goto (tgt := 44) dX7_setUp_40 (by decide) ?_
        refine wp_iload_n 2 dX7_setUp_44 rfl ?_
        refine wp_icmp_ne (tgt := 52) dX7_setUp_45 (by decide) (fun c20 => ?_) (fun c20 => ?_)
        · have hs := hs.1 c20
          refine wp_aload_n 0 dX7_setUp_52 rfl ?_
          refine wp_cVv (As := []) (st := []) (mw_X7_know  hs) gX7_setUp_X7_know rfl hy_X7_know rfl rfl (by decide) rfl (by decide) (by decide) (Nat.le_of_ble_eq_true rfl) rfl dX7_setUp_53 (fun  M21 hs => ?_)
          refine wp_aload_n 0 dX7_setUp_56 rfl ?_
          refine wp_get (v := .ref 1) dX7_setUp_57 rfl (by decide) rfl in_X7_setUp_X7 0 (by decide) fl_X7_setUp_7 rfl rfl ?_
          refine wp_bipush (v := (nI 9)) dX7_setUp_60 (by decide) ?_
          refine wp_iload_n 1 dX7_setUp_62 rfl ?_
          refine wp_iadd dX7_setUp_63 ?_
          refine wp_iload_n 2 dX7_setUp_64 rfl ?_
          refine wp_if_eq (tgt := 72) dX7_setUp_65 (by decide) (fun c22 => ?_) (fun c22 => ?_)
          · have hs := hs.1 c22
            refine wp_iconst (v := (nI 0)) dX7_setUp_72 (by decide) ?_
            have hv := hs.1
            have hs := hs.2
            refine wp_iast rfl (by decide) hv dX7_setUp_73 (fun M23 eM23 => ?_)
            have hs := hs M23 eM23
            refine wp_iconst (v := (nI 0)) dX7_setUp_74 (by decide) ?_
            refine wp_istore_n (ls' := [(0, .ref 0), (1, .int a), (2, .int b), (3, .int (nI 0))]) [1, 2, 3, 0] dX7_setUp_75 rfl (by decide) ?_
            refine wp_iconst (v := (nI 0)) dX7_setUp_76 (by decide) ?_
            refine wp_istore (ls' := [(0, .ref 0), (1, .int a), (2, .int b), (3, .int (nI 0)), (4, .int (nI 0))]) [1, 2, 3, 4, 0] dX7_setUp_77 rfl (by decide) ?_
            refine wp_sub (ls' := [(0, .ref 0), (3, .int (nI 0)), (4, .int (nI 0))]) [0, 3, 4] rfl ?_
            refine lp_X7_setUp_79 (K := fun y24 y25 M26 => Q y24 M26) (fun y24 y25 M26 hs => ?_) FU _ _ _ hs
            refine wp_iload_n 0 dX7_setUp_109 rfl ?_
            exact wp_ireturn rfl rfl dX7_setUp_110 (hQ _ _ hs)
          · have hs := hs.2 c22
            refine wp_iconst (v := (nI 1)) dX7_setUp_68 (by decide) ?_
            refine wp_goto (tgt := 73) dX7_setUp_69 (by decide) ?_
            have hv := hs.1
            have hs := hs.2
            refine wp_iast rfl (by decide) hv dX7_setUp_73 (fun M27 eM27 => ?_)
            have hs := hs M27 eM27
            refine wp_iconst (v := (nI 0)) dX7_setUp_74 (by decide) ?_
            refine wp_istore_n (ls' := [(0, .ref 0), (1, .int a), (2, .int b), (3, .int (nI 0))]) [1, 2, 3, 0] dX7_setUp_75 rfl (by decide) ?_
            refine wp_iconst (v := (nI 0)) dX7_setUp_76 (by decide) ?_
            refine wp_istore (ls' := [(0, .ref 0), (1, .int a), (2, .int b), (3, .int (nI 0)), (4, .int (nI 0))]) [1, 2, 3, 4, 0] dX7_setUp_77 rfl (by decide) ?_
            refine wp_sub (ls' := [(0, .ref 0), (3, .int (nI 0)), (4, .int (nI 0))]) [0, 3, 4] rfl ?_
            refine lp_X7_setUp_79 (K := fun y28 y29 M30 => Q y28 M30) (fun y28 y29 M30 hs => ?_) FU _ _ _ hs
            refine wp_iload_n 0 dX7_setUp_109 rfl ?_
            exact wp_ireturn rfl rfl dX7_setUp_110 (hQ _ _ hs)
        · have hs := hs.2 c20
          refine wp_sipush (v := (-1005 : Int32)) dX7_setUp_48 (by decide) ?_
          exact wp_ireturn rfl rfl dX7_setUp_51 (hQ _ _ hs)
    · have hs := hs.2 c4
      refine wp_sipush (v := (-1004 : Int32)) dX7_setUp_22 (by decide) ?_
      exact wp_ireturn rfl rfl dX7_setUp_25 (hQ _ _ hs)
  · have hs := hs.2 c3
    refine wp_sipush (v := (-1001 : Int32)) dX7_setUp_8 (by decide) ?_
    exact wp_ireturn rfl rfl dX7_setUp_11 (hQ _ _ hs)
abbrev iX7_set : MI := (cX7_set, 5, some .int, RX7, yX7_set, wsX7_set)
theorem hy_X7_set : yX7_set.cls = RX7 ∧ yX7_set.cls ≠ "java/lang/invoke/MethodHandle" ∧ yX7_set.cls ≠ "java/lang/invoke/VarHandle" ∧ (parseMethodDescriptor yX7_set.desc).map (fun d => d.parameters.length) = some 2 := by decide +kernel
theorem in_X7_set_X7 : ∀ w ∈ u_ws RX7 TX7 13, w ∈ wsX7_set := by decide +kernel
theorem fl_X7_set_7 : Cond.fieldLink RX7 7 (TX7 0).1 (TX7 0).2.1 (TX7 0).2.2.1 ∈ wsX7_set := by decide +kernel
def w_X7_set (a : Int32) (b : Int32) (M : Nat → Nat → Int32) (Q : Int32 → (Nat → Nat → Int32) → Prop) : Prop := ((¬ a = 0 → ((¬ a = 0 → ((¬ a = (nI 1) → w_X7_in a (nI 0) (nI 3) M (fun v5 M4 => ((v5 = 0 → Q (-1002 : Int32) M4) ∧ (¬ v5 = 0 → w_X7_in b (nI 0) (nI 9) M4 (fun v8 M7 => ((¬ v8 = 0 → (vp_in ((nI 18) + a) 23 ∧ ((¬ (M7 1 ((nI 18) + a).toNatClampNeg) = b → w_X7_know M7 (fun M11 => w_X7_puts ((nI 18) + a) b M11 (fun v13 M12 => Q v13 M12))) ∧ ((M7 1 ((nI 18) + a).toNatClampNeg) = b → Q (-1005 : Int32) M7)))) ∧ (v8 = 0 → Q (-1002 : Int32) M7))))))) ∧ (a = (nI 1) → w_X7_in a (nI 0) (nI 3) M (fun v15 M14 => ((v15 = 0 → Q (-1002 : Int32) M14) ∧ (¬ v15 = 0 → w_X7_in b (nI 0) (nI 3) M14 (fun v18 M17 => ((¬ v18 = 0 → (vp_in ((nI 18) + a) 23 ∧ ((¬ (M17 1 ((nI 18) + a).toNatClampNeg) = b → w_X7_know M17 (fun M21 => w_X7_puts ((nI 18) + a) b M21 (fun v23 M22 => Q v23 M22))) ∧ ((M17 1 ((nI 18) + a).toNatClampNeg) = b → Q (-1005 : Int32) M17)))) ∧ (v18 = 0 → Q (-1002 : Int32) M17))))))))) ∧ (a = 0 → w_X7_in a (nI 0) (nI 3) M (fun v25 M24 => ((v25 = 0 → Q (-1002 : Int32) M24) ∧ (¬ v25 = 0 → w_X7_in b (nI 0) (nI 12) M24 (fun v28 M27 => ((¬ v28 = 0 → (vp_in ((nI 18) + a) 23 ∧ ((¬ (M27 1 ((nI 18) + a).toNatClampNeg) = b → w_X7_know M27 (fun M31 => w_X7_puts ((nI 18) + a) b M31 (fun v33 M32 => Q v33 M32))) ∧ ((M27 1 ((nI 18) + a).toNatClampNeg) = b → Q (-1005 : Int32) M27)))) ∧ (v28 = 0 → Q (-1002 : Int32) M27))))))))) ∧ (a = 0 → ((¬ a = 0 → ((¬ a = (nI 1) → w_X7_in a (nI 0) (nI 3) M (fun v37 M36 => ((v37 = 0 → Q (-1002 : Int32) M36) ∧ (¬ v37 = 0 → w_X7_in b (nI 1) (nI 9) M36 (fun v40 M39 => ((¬ v40 = 0 → (vp_in ((nI 18) + a) 23 ∧ ((¬ (M39 1 ((nI 18) + a).toNatClampNeg) = b → w_X7_know M39 (fun M43 => w_X7_puts ((nI 18) + a) b M43 (fun v45 M44 => Q v45 M44))) ∧ ((M39 1 ((nI 18) + a).toNatClampNeg) = b → Q (-1005 : Int32) M39)))) ∧ (v40 = 0 → Q (-1002 : Int32) M39))))))) ∧ (a = (nI 1) → w_X7_in a (nI 0) (nI 3) M (fun v47 M46 => ((v47 = 0 → Q (-1002 : Int32) M46) ∧ (¬ v47 = 0 → w_X7_in b (nI 1) (nI 3) M46 (fun v50 M49 => ((¬ v50 = 0 → (vp_in ((nI 18) + a) 23 ∧ ((¬ (M49 1 ((nI 18) + a).toNatClampNeg) = b → w_X7_know M49 (fun M53 => w_X7_puts ((nI 18) + a) b M53 (fun v55 M54 => Q v55 M54))) ∧ ((M49 1 ((nI 18) + a).toNatClampNeg) = b → Q (-1005 : Int32) M49)))) ∧ (v50 = 0 → Q (-1002 : Int32) M49))))))))) ∧ (a = 0 → w_X7_in a (nI 0) (nI 3) M (fun v57 M56 => ((v57 = 0 → Q (-1002 : Int32) M56) ∧ (¬ v57 = 0 → w_X7_in b (nI 1) (nI 12) M56 (fun v60 M59 => ((¬ v60 = 0 → (vp_in ((nI 18) + a) 23 ∧ ((¬ (M59 1 ((nI 18) + a).toNatClampNeg) = b → w_X7_know M59 (fun M63 => w_X7_puts ((nI 18) + a) b M63 (fun v65 M64 => Q v65 M64))) ∧ ((M59 1 ((nI 18) + a).toNatClampNeg) = b → Q (-1005 : Int32) M59)))) ∧ (v60 = 0 → Q (-1002 : Int32) M59))))))))))
set_option maxHeartbeats 4000000 in
set_option maxRecDepth 100000 in
theorem mw_X7_set {E : EN} {a : Int32} {b : Int32} {M : Nat → Nat → Int32} {Q : Int32 → (Nat → Nat → Int32) → Prop} (hs : w_X7_set a b M Q) : MW E iX7_set 2 0 0 false [.ref 0, .int a, .int b] σM 10 M (qI σM 10 Q) := by
  refine mw_intro (ls := [(0, .ref 0), (1, .int a), (2, .int b)]) rfl (by decide +kernel) rfl rfl (Nat.le_of_ble_eq_true rfl) ?_
  have hQ : ∀ x M, Q x M → (qI σM 10 Q) (some (.int x)) σM 10 M := fun _ _ h => ⟨_, rfl, rfl, rfl, h⟩
  generalize (qI σM 10 Q) = Qf at hQ ⊢
  unfold w_X7_set at hs
  refine wp_iload_n 1 dX7_set_0 rfl ?_
  refine wp_if_ne (tgt := 8) dX7_set_1 (by decide) (fun c1 => ?_) (fun c1 => ?_)
  · have hs := hs.1 c1
    refine wp_iconst (v := (nI 0)) dX7_set_8 (by decide) ?_
    refine wp_istore_n (ls' := [(0, .ref 0), (1, .int a), (2, .int b), (3, .int (nI 0))]) [1, 2, 3, 0] dX7_set_9 rfl (by decide) ?_
    refine wp_iload_n 1 dX7_set_10 rfl ?_
    refine wp_if_ne (tgt := 19) dX7_set_11 (by decide) (fun c2 => ?_) (fun c2 => ?_)
    · have hs := hs.1 c2
      refine wp_iload_n 1 dX7_set_19 rfl ?_
      refine wp_iconst (v := (nI 1)) dX7_set_20 (by decide) ?_
      refine wp_icmp_ne (tgt := 28) dX7_set_21 (by decide) (fun c3 => ?_) (fun c3 => ?_)
      · have hs := hs.1 c3
        refine wp_bipush (v := (nI 9)) dX7_set_28 (by decide) ?_
        refine wp_istore (ls' := [(0, .ref 0), (1, .int a), (2, .int b), (3, .int (nI 0)), (4, .int (nI 9))]) [1, 2, 3, 4, 0] dX7_set_30 rfl (by decide) ?_
        refine wp_iload_n 1 dX7_set_32 rfl ?_
        refine wp_iconst (v := (nI 0)) dX7_set_33 (by decide) ?_
        refine wp_iconst (v := (nI 3)) dX7_set_34 (by decide) ?_
        refine wp_cSi (As := [.int a, .int (nI 0), .int (nI 3)]) (st := []) (mw_X7_in  hs) gX7_set_X7_in rfl hy_X7_in rfl (by decide) (by decide) (Nat.le_of_ble_eq_true rfl) rfl dX7_set_35 (fun v5 M4 hs => ?_)
        refine wp_if_eq (tgt := 51) dX7_set_38 (by decide) (fun c6 => ?_) (fun c6 => ?_)
        · have hs := hs.1 c6
          refine wp_sipush (v := (-1002 : Int32)) dX7_set_51 (by decide) ?_
          exact wp_ireturn rfl rfl dX7_set_54 (hQ _ _ hs)
        · have hs := hs.2 c6
          refine wp_iload_n 2 dX7_set_41 rfl ?_
          refine wp_iload_n 3 dX7_set_42 rfl ?_
          refine wp_iload 4 dX7_set_43 rfl ?_
          refine wp_cSi (As := [.int b, .int (nI 0), .int (nI 9)]) (st := []) (mw_X7_in  hs) gX7_set_X7_in rfl hy_X7_in rfl (by decide) (by decide) (Nat.le_of_ble_eq_true rfl) rfl dX7_set_45 (fun v8 M7 hs => ?_)
          refine wp_if_ne (tgt := 55) dX7_set_48 (by decide) (fun c9 => ?_) (fun c9 => ?_)
          · have hs := hs.1 c9
            refine wp_aload_n 0 dX7_set_55 rfl ?_
            refine wp_get (v := .ref 1) dX7_set_56 rfl (by decide) rfl in_X7_set_X7 0 (by decide) fl_X7_set_7 rfl rfl ?_
            refine wp_bipush (v := (nI 18)) dX7_set_59 (by decide) ?_
            refine wp_iload_n 1 dX7_set_61 rfl ?_
            refine wp_iadd dX7_set_62 ?_
            have hv := hs.1
            have hs := hs.2
            refine wp_iald rfl (by decide) hv dX7_set_63 ?_
            refine wp_iload_n 2 dX7_set_64 rfl ?_
            refine wp_icmp_ne (tgt := 72) dX7_set_65 (by decide) (fun c10 => ?_) (fun c10 => ?_)
            · have hs := hs.1 c10
              refine wp_aload_n 0 dX7_set_72 rfl ?_
              refine wp_cVv (As := []) (st := []) (mw_X7_know  hs) gX7_set_X7_know rfl hy_X7_know rfl rfl (by decide) rfl (by decide) (by decide) (Nat.le_of_ble_eq_true rfl) rfl dX7_set_73 (fun  M11 hs => ?_)
              refine wp_aload_n 0 dX7_set_76 rfl ?_
              refine wp_bipush (v := (nI 18)) dX7_set_77 (by decide) ?_
              refine wp_iload_n 1 dX7_set_79 rfl ?_
              refine wp_iadd dX7_set_80 ?_
              refine wp_iload_n 2 dX7_set_81 rfl ?_
              refine wp_cVi (As := [.int ((nI 18) + a), .int b]) (st := []) (mw_X7_puts  hs) gX7_set_X7_puts rfl hy_X7_puts rfl rfl (by decide) rfl (by decide) (by decide) (Nat.le_of_ble_eq_true rfl) rfl dX7_set_82 (fun v13 M12 hs => ?_)
              exact wp_ireturn rfl rfl dX7_set_85 (hQ _ _ hs)
            · have hs := hs.2 c10
              refine wp_sipush (v := (-1005 : Int32)) dX7_set_68 (by decide) ?_
              exact wp_ireturn rfl rfl dX7_set_71 (hQ _ _ hs)
          · have hs := hs.2 c9
            refine wp_sipush (v := (-1002 : Int32)) dX7_set_51 (by decide) ?_
            exact wp_ireturn rfl rfl dX7_set_54 (hQ _ _ hs)
      · have hs := hs.2 c3
        refine wp_iconst (v := (nI 3)) dX7_set_24 (by decide) ?_
        refine wp_goto (tgt := 30) dX7_set_25 (by decide) ?_
        refine wp_istore (ls' := [(0, .ref 0), (1, .int a), (2, .int b), (3, .int (nI 0)), (4, .int (nI 3))]) [1, 2, 3, 4, 0] dX7_set_30 rfl (by decide) ?_
        refine wp_iload_n 1 dX7_set_32 rfl ?_
        refine wp_iconst (v := (nI 0)) dX7_set_33 (by decide) ?_
        refine wp_iconst (v := (nI 3)) dX7_set_34 (by decide) ?_
        refine wp_cSi (As := [.int a, .int (nI 0), .int (nI 3)]) (st := []) (mw_X7_in  hs) gX7_set_X7_in rfl hy_X7_in rfl (by decide) (by decide) (Nat.le_of_ble_eq_true rfl) rfl dX7_set_35 (fun v15 M14 hs => ?_)
        refine wp_if_eq (tgt := 51) dX7_set_38 (by decide) (fun c16 => ?_) (fun c16 => ?_)
        · have hs := hs.1 c16
          refine wp_sipush (v := (-1002 : Int32)) dX7_set_51 (by decide) ?_
          exact wp_ireturn rfl rfl dX7_set_54 (hQ _ _ hs)
        · have hs := hs.2 c16
          refine wp_iload_n 2 dX7_set_41 rfl ?_
          refine wp_iload_n 3 dX7_set_42 rfl ?_
          refine wp_iload 4 dX7_set_43 rfl ?_
          refine wp_cSi (As := [.int b, .int (nI 0), .int (nI 3)]) (st := []) (mw_X7_in  hs) gX7_set_X7_in rfl hy_X7_in rfl (by decide) (by decide) (Nat.le_of_ble_eq_true rfl) rfl dX7_set_45 (fun v18 M17 hs => ?_)
          refine wp_if_ne (tgt := 55) dX7_set_48 (by decide) (fun c19 => ?_) (fun c19 => ?_)
          · have hs := hs.1 c19
            refine wp_aload_n 0 dX7_set_55 rfl ?_
            refine wp_get (v := .ref 1) dX7_set_56 rfl (by decide) rfl in_X7_set_X7 0 (by decide) fl_X7_set_7 rfl rfl ?_
            refine wp_bipush (v := (nI 18)) dX7_set_59 (by decide) ?_
            refine wp_iload_n 1 dX7_set_61 rfl ?_
            refine wp_iadd dX7_set_62 ?_
            have hv := hs.1
            have hs := hs.2
            refine wp_iald rfl (by decide) hv dX7_set_63 ?_
            refine wp_iload_n 2 dX7_set_64 rfl ?_
            refine wp_icmp_ne (tgt := 72) dX7_set_65 (by decide) (fun c20 => ?_) (fun c20 => ?_)
            · have hs := hs.1 c20
              refine wp_aload_n 0 dX7_set_72 rfl ?_
              refine wp_cVv (As := []) (st := []) (mw_X7_know  hs) gX7_set_X7_know rfl hy_X7_know rfl rfl (by decide) rfl (by decide) (by decide) (Nat.le_of_ble_eq_true rfl) rfl dX7_set_73 (fun  M21 hs => ?_)
              refine wp_aload_n 0 dX7_set_76 rfl ?_
              refine wp_bipush (v := (nI 18)) dX7_set_77 (by decide) ?_
              refine wp_iload_n 1 dX7_set_79 rfl ?_
              refine wp_iadd dX7_set_80 ?_
              refine wp_iload_n 2 dX7_set_81 rfl ?_
              refine wp_cVi (As := [.int ((nI 18) + a), .int b]) (st := []) (mw_X7_puts  hs) gX7_set_X7_puts rfl hy_X7_puts rfl rfl (by decide) rfl (by decide) (by decide) (Nat.le_of_ble_eq_true rfl) rfl dX7_set_82 (fun v23 M22 hs => ?_)
              exact wp_ireturn rfl rfl dX7_set_85 (hQ _ _ hs)
            · have hs := hs.2 c20
              refine wp_sipush (v := (-1005 : Int32)) dX7_set_68 (by decide) ?_
              exact wp_ireturn rfl rfl dX7_set_71 (hQ _ _ hs)
          · have hs := hs.2 c19
            refine wp_sipush (v := (-1002 : Int32)) dX7_set_51 (by decide) ?_
            exact wp_ireturn rfl rfl dX7_set_54 (hQ _ _ hs)
    · have hs := hs.2 c2
      refine wp_bipush (v := (nI 12)) dX7_set_14 (by decide) ?_
      refine wp_goto (tgt := 30) dX7_set_16 (by decide) ?_
      refine wp_istore (ls' := [(0, .ref 0), (1, .int a), (2, .int b), (3, .int (nI 0)), (4, .int (nI 12))]) [1, 2, 3, 4, 0] dX7_set_30 rfl (by decide) ?_
      refine wp_iload_n 1 dX7_set_32 rfl ?_
      refine wp_iconst (v := (nI 0)) dX7_set_33 (by decide) ?_
      refine wp_iconst (v := (nI 3)) dX7_set_34 (by decide) ?_
      refine wp_cSi (As := [.int a, .int (nI 0), .int (nI 3)]) (st := []) (mw_X7_in  hs) gX7_set_X7_in rfl hy_X7_in rfl (by decide) (by decide) (Nat.le_of_ble_eq_true rfl) rfl dX7_set_35 (fun v25 M24 hs => ?_)
      refine wp_if_eq (tgt := 51) dX7_set_38 (by decide) (fun c26 => ?_) (fun c26 => ?_)
      · have hs := hs.1 c26
        refine wp_sipush (v := (-1002 : Int32)) dX7_set_51 (by decide) ?_
        exact wp_ireturn rfl rfl dX7_set_54 (hQ _ _ hs)
      · have hs := hs.2 c26
        refine wp_iload_n 2 dX7_set_41 rfl ?_
        refine wp_iload_n 3 dX7_set_42 rfl ?_
        refine wp_iload 4 dX7_set_43 rfl ?_
        refine wp_cSi (As := [.int b, .int (nI 0), .int (nI 12)]) (st := []) (mw_X7_in  hs) gX7_set_X7_in rfl hy_X7_in rfl (by decide) (by decide) (Nat.le_of_ble_eq_true rfl) rfl dX7_set_45 (fun v28 M27 hs => ?_)
        refine wp_if_ne (tgt := 55) dX7_set_48 (by decide) (fun c29 => ?_) (fun c29 => ?_)
        · have hs := hs.1 c29
          refine wp_aload_n 0 dX7_set_55 rfl ?_
          refine wp_get (v := .ref 1) dX7_set_56 rfl (by decide) rfl in_X7_set_X7 0 (by decide) fl_X7_set_7 rfl rfl ?_
          refine wp_bipush (v := (nI 18)) dX7_set_59 (by decide) ?_
          refine wp_iload_n 1 dX7_set_61 rfl ?_
          refine wp_iadd dX7_set_62 ?_
          have hv := hs.1
          have hs := hs.2
          refine wp_iald rfl (by decide) hv dX7_set_63 ?_
          refine wp_iload_n 2 dX7_set_64 rfl ?_
          refine wp_icmp_ne (tgt := 72) dX7_set_65 (by decide) (fun c30 => ?_) (fun c30 => ?_)
          · have hs := hs.1 c30
            refine wp_aload_n 0 dX7_set_72 rfl ?_
            refine wp_cVv (As := []) (st := []) (mw_X7_know  hs) gX7_set_X7_know rfl hy_X7_know rfl rfl (by decide) rfl (by decide) (by decide) (Nat.le_of_ble_eq_true rfl) rfl dX7_set_73 (fun  M31 hs => ?_)
            refine wp_aload_n 0 dX7_set_76 rfl ?_
            refine wp_bipush (v := (nI 18)) dX7_set_77 (by decide) ?_
            refine wp_iload_n 1 dX7_set_79 rfl ?_
            refine wp_iadd dX7_set_80 ?_
            refine wp_iload_n 2 dX7_set_81 rfl ?_
            refine wp_cVi (As := [.int ((nI 18) + a), .int b]) (st := []) (mw_X7_puts  hs) gX7_set_X7_puts rfl hy_X7_puts rfl rfl (by decide) rfl (by decide) (by decide) (Nat.le_of_ble_eq_true rfl) rfl dX7_set_82 (fun v33 M32 hs => ?_)
            exact wp_ireturn rfl rfl dX7_set_85 (hQ _ _ hs)
          · have hs := hs.2 c30
            refine wp_sipush (v := (-1005 : Int32)) dX7_set_68 (by decide) ?_
            exact wp_ireturn rfl rfl dX7_set_71 (hQ _ _ hs)
        · have hs := hs.2 c29
          refine wp_sipush (v := (-1002 : Int32)) dX7_set_51 (by decide) ?_
          exact wp_ireturn rfl rfl dX7_set_54 (hQ _ _ hs)
  · have hs := hs.2 c1
    refine wp_iconst (v := (nI 1)) dX7_set_4 (by decide) ?_
    refine wp_goto (tgt := 9) dX7_set_5 (by decide) ?_
    refine wp_istore_n (ls' := [(0, .ref 0), (1, .int a), (2, .int b), (3, .int (nI 1))]) [1, 2, 3, 0] dX7_set_9 rfl (by decide) ?_
    refine wp_iload_n 1 dX7_set_10 rfl ?_
    refine wp_if_ne (tgt := 19) dX7_set_11 (by decide) (fun c34 => ?_) (fun c34 => ?_)
    · have hs := hs.1 c34
      refine wp_iload_n 1 dX7_set_19 rfl ?_
      refine wp_iconst (v := (nI 1)) dX7_set_20 (by decide) ?_
      refine wp_icmp_ne (tgt := 28) dX7_set_21 (by decide) (fun c35 => ?_) (fun c35 => ?_)
      · have hs := hs.1 c35
        refine wp_bipush (v := (nI 9)) dX7_set_28 (by decide) ?_
        refine wp_istore (ls' := [(0, .ref 0), (1, .int a), (2, .int b), (3, .int (nI 1)), (4, .int (nI 9))]) [1, 2, 3, 4, 0] dX7_set_30 rfl (by decide) ?_
        refine wp_iload_n 1 dX7_set_32 rfl ?_
        refine wp_iconst (v := (nI 0)) dX7_set_33 (by decide) ?_
        refine wp_iconst (v := (nI 3)) dX7_set_34 (by decide) ?_
        refine wp_cSi (As := [.int a, .int (nI 0), .int (nI 3)]) (st := []) (mw_X7_in  hs) gX7_set_X7_in rfl hy_X7_in rfl (by decide) (by decide) (Nat.le_of_ble_eq_true rfl) rfl dX7_set_35 (fun v37 M36 hs => ?_)
        refine wp_if_eq (tgt := 51) dX7_set_38 (by decide) (fun c38 => ?_) (fun c38 => ?_)
        · have hs := hs.1 c38
          refine wp_sipush (v := (-1002 : Int32)) dX7_set_51 (by decide) ?_
          exact wp_ireturn rfl rfl dX7_set_54 (hQ _ _ hs)
        · have hs := hs.2 c38
          refine wp_iload_n 2 dX7_set_41 rfl ?_
          refine wp_iload_n 3 dX7_set_42 rfl ?_
          refine wp_iload 4 dX7_set_43 rfl ?_
          refine wp_cSi (As := [.int b, .int (nI 1), .int (nI 9)]) (st := []) (mw_X7_in  hs) gX7_set_X7_in rfl hy_X7_in rfl (by decide) (by decide) (Nat.le_of_ble_eq_true rfl) rfl dX7_set_45 (fun v40 M39 hs => ?_)
          refine wp_if_ne (tgt := 55) dX7_set_48 (by decide) (fun c41 => ?_) (fun c41 => ?_)
          · have hs := hs.1 c41
            refine wp_aload_n 0 dX7_set_55 rfl ?_
            refine wp_get (v := .ref 1) dX7_set_56 rfl (by decide) rfl in_X7_set_X7 0 (by decide) fl_X7_set_7 rfl rfl ?_
            refine wp_bipush (v := (nI 18)) dX7_set_59 (by decide) ?_
            refine wp_iload_n 1 dX7_set_61 rfl ?_
            refine wp_iadd dX7_set_62 ?_
            have hv := hs.1
            have hs := hs.2
            refine wp_iald rfl (by decide) hv dX7_set_63 ?_
            refine wp_iload_n 2 dX7_set_64 rfl ?_
            refine wp_icmp_ne (tgt := 72) dX7_set_65 (by decide) (fun c42 => ?_) (fun c42 => ?_)
            · have hs := hs.1 c42
              refine wp_aload_n 0 dX7_set_72 rfl ?_
              refine wp_cVv (As := []) (st := []) (mw_X7_know  hs) gX7_set_X7_know rfl hy_X7_know rfl rfl (by decide) rfl (by decide) (by decide) (Nat.le_of_ble_eq_true rfl) rfl dX7_set_73 (fun  M43 hs => ?_)
              refine wp_aload_n 0 dX7_set_76 rfl ?_
              refine wp_bipush (v := (nI 18)) dX7_set_77 (by decide) ?_
              refine wp_iload_n 1 dX7_set_79 rfl ?_
              refine wp_iadd dX7_set_80 ?_
              refine wp_iload_n 2 dX7_set_81 rfl ?_
              refine wp_cVi (As := [.int ((nI 18) + a), .int b]) (st := []) (mw_X7_puts  hs) gX7_set_X7_puts rfl hy_X7_puts rfl rfl (by decide) rfl (by decide) (by decide) (Nat.le_of_ble_eq_true rfl) rfl dX7_set_82 (fun v45 M44 hs => ?_)
              exact wp_ireturn rfl rfl dX7_set_85 (hQ _ _ hs)
            · have hs := hs.2 c42
              refine wp_sipush (v := (-1005 : Int32)) dX7_set_68 (by decide) ?_
              exact wp_ireturn rfl rfl dX7_set_71 (hQ _ _ hs)
          · have hs := hs.2 c41
            refine wp_sipush (v := (-1002 : Int32)) dX7_set_51 (by decide) ?_
            exact wp_ireturn rfl rfl dX7_set_54 (hQ _ _ hs)
      · have hs := hs.2 c35
        refine wp_iconst (v := (nI 3)) dX7_set_24 (by decide) ?_
        refine wp_goto (tgt := 30) dX7_set_25 (by decide) ?_
        refine wp_istore (ls' := [(0, .ref 0), (1, .int a), (2, .int b), (3, .int (nI 1)), (4, .int (nI 3))]) [1, 2, 3, 4, 0] dX7_set_30 rfl (by decide) ?_
        refine wp_iload_n 1 dX7_set_32 rfl ?_
        refine wp_iconst (v := (nI 0)) dX7_set_33 (by decide) ?_
        refine wp_iconst (v := (nI 3)) dX7_set_34 (by decide) ?_
        refine wp_cSi (As := [.int a, .int (nI 0), .int (nI 3)]) (st := []) (mw_X7_in  hs) gX7_set_X7_in rfl hy_X7_in rfl (by decide) (by decide) (Nat.le_of_ble_eq_true rfl) rfl dX7_set_35 (fun v47 M46 hs => ?_)
        refine wp_if_eq (tgt := 51) dX7_set_38 (by decide) (fun c48 => ?_) (fun c48 => ?_)
        · have hs := hs.1 c48
          refine wp_sipush (v := (-1002 : Int32)) dX7_set_51 (by decide) ?_
          exact wp_ireturn rfl rfl dX7_set_54 (hQ _ _ hs)
        · have hs := hs.2 c48
          refine wp_iload_n 2 dX7_set_41 rfl ?_
          refine wp_iload_n 3 dX7_set_42 rfl ?_
          refine wp_iload 4 dX7_set_43 rfl ?_
          refine wp_cSi (As := [.int b, .int (nI 1), .int (nI 3)]) (st := []) (mw_X7_in  hs) gX7_set_X7_in rfl hy_X7_in rfl (by decide) (by decide) (Nat.le_of_ble_eq_true rfl) rfl dX7_set_45 (fun v50 M49 hs => ?_)
          refine wp_if_ne (tgt := 55) dX7_set_48 (by decide) (fun c51 => ?_) (fun c51 => ?_)
          · have hs := hs.1 c51
            refine wp_aload_n 0 dX7_set_55 rfl ?_
            refine wp_get (v := .ref 1) dX7_set_56 rfl (by decide) rfl in_X7_set_X7 0 (by decide) fl_X7_set_7 rfl rfl ?_
            refine wp_bipush (v := (nI 18)) dX7_set_59 (by decide) ?_
            refine wp_iload_n 1 dX7_set_61 rfl ?_
            refine wp_iadd dX7_set_62 ?_
            have hv := hs.1
            have hs := hs.2
            refine wp_iald rfl (by decide) hv dX7_set_63 ?_
            refine wp_iload_n 2 dX7_set_64 rfl ?_
            refine wp_icmp_ne (tgt := 72) dX7_set_65 (by decide) (fun c52 => ?_) (fun c52 => ?_)
            · have hs := hs.1 c52
              refine wp_aload_n 0 dX7_set_72 rfl ?_
              refine wp_cVv (As := []) (st := []) (mw_X7_know  hs) gX7_set_X7_know rfl hy_X7_know rfl rfl (by decide) rfl (by decide) (by decide) (Nat.le_of_ble_eq_true rfl) rfl dX7_set_73 (fun  M53 hs => ?_)
              refine wp_aload_n 0 dX7_set_76 rfl ?_
              refine wp_bipush (v := (nI 18)) dX7_set_77 (by decide) ?_
              refine wp_iload_n 1 dX7_set_79 rfl ?_
              refine wp_iadd dX7_set_80 ?_
              refine wp_iload_n 2 dX7_set_81 rfl ?_
              refine wp_cVi (As := [.int ((nI 18) + a), .int b]) (st := []) (mw_X7_puts  hs) gX7_set_X7_puts rfl hy_X7_puts rfl rfl (by decide) rfl (by decide) (by decide) (Nat.le_of_ble_eq_true rfl) rfl dX7_set_82 (fun v55 M54 hs => ?_)
              exact wp_ireturn rfl rfl dX7_set_85 (hQ _ _ hs)
            · have hs := hs.2 c52
              refine wp_sipush (v := (-1005 : Int32)) dX7_set_68 (by decide) ?_
              exact wp_ireturn rfl rfl dX7_set_71 (hQ _ _ hs)
          · have hs := hs.2 c51
            refine wp_sipush (v := (-1002 : Int32)) dX7_set_51 (by decide) ?_
            exact wp_ireturn rfl rfl dX7_set_54 (hQ _ _ hs)
    · have hs := hs.2 c34
      refine wp_bipush (v := (nI 12)) dX7_set_14 (by decide) ?_
      refine wp_goto (tgt := 30) dX7_set_16 (by decide) ?_
      refine wp_istore (ls' := [(0, .ref 0), (1, .int a), (2, .int b), (3, .int (nI 1)), (4, .int (nI 12))]) [1, 2, 3, 4, 0] dX7_set_30 rfl (by decide) ?_
      refine wp_iload_n 1 dX7_set_32 rfl ?_
      refine wp_iconst (v := (nI 0)) dX7_set_33 (by decide) ?_
      refine wp_iconst (v := (nI 3)) dX7_set_34 (by decide) ?_
      refine wp_cSi (As := [.int a, .int (nI 0), .int (nI 3)]) (st := []) (mw_X7_in  hs) gX7_set_X7_in rfl hy_X7_in rfl (by decide) (by decide) (Nat.le_of_ble_eq_true rfl) rfl dX7_set_35 (fun v57 M56 hs => ?_)
      refine wp_if_eq (tgt := 51) dX7_set_38 (by decide) (fun c58 => ?_) (fun c58 => ?_)
      · have hs := hs.1 c58
        refine wp_sipush (v := (-1002 : Int32)) dX7_set_51 (by decide) ?_
        exact wp_ireturn rfl rfl dX7_set_54 (hQ _ _ hs)
      · have hs := hs.2 c58
        refine wp_iload_n 2 dX7_set_41 rfl ?_
        refine wp_iload_n 3 dX7_set_42 rfl ?_
        refine wp_iload 4 dX7_set_43 rfl ?_
        refine wp_cSi (As := [.int b, .int (nI 1), .int (nI 12)]) (st := []) (mw_X7_in  hs) gX7_set_X7_in rfl hy_X7_in rfl (by decide) (by decide) (Nat.le_of_ble_eq_true rfl) rfl dX7_set_45 (fun v60 M59 hs => ?_)
        refine wp_if_ne (tgt := 55) dX7_set_48 (by decide) (fun c61 => ?_) (fun c61 => ?_)
        · have hs := hs.1 c61
          refine wp_aload_n 0 dX7_set_55 rfl ?_
          refine wp_get (v := .ref 1) dX7_set_56 rfl (by decide) rfl in_X7_set_X7 0 (by decide) fl_X7_set_7 rfl rfl ?_
          refine wp_bipush (v := (nI 18)) dX7_set_59 (by decide) ?_
          refine wp_iload_n 1 dX7_set_61 rfl ?_
          refine wp_iadd dX7_set_62 ?_
          have hv := hs.1
          have hs := hs.2
          refine wp_iald rfl (by decide) hv dX7_set_63 ?_
          refine wp_iload_n 2 dX7_set_64 rfl ?_
          refine wp_icmp_ne (tgt := 72) dX7_set_65 (by decide) (fun c62 => ?_) (fun c62 => ?_)
          · have hs := hs.1 c62
            refine wp_aload_n 0 dX7_set_72 rfl ?_
            refine wp_cVv (As := []) (st := []) (mw_X7_know  hs) gX7_set_X7_know rfl hy_X7_know rfl rfl (by decide) rfl (by decide) (by decide) (Nat.le_of_ble_eq_true rfl) rfl dX7_set_73 (fun  M63 hs => ?_)
            refine wp_aload_n 0 dX7_set_76 rfl ?_
            refine wp_bipush (v := (nI 18)) dX7_set_77 (by decide) ?_
            refine wp_iload_n 1 dX7_set_79 rfl ?_
            refine wp_iadd dX7_set_80 ?_
            refine wp_iload_n 2 dX7_set_81 rfl ?_
            refine wp_cVi (As := [.int ((nI 18) + a), .int b]) (st := []) (mw_X7_puts  hs) gX7_set_X7_puts rfl hy_X7_puts rfl rfl (by decide) rfl (by decide) (by decide) (Nat.le_of_ble_eq_true rfl) rfl dX7_set_82 (fun v65 M64 hs => ?_)
            exact wp_ireturn rfl rfl dX7_set_85 (hQ _ _ hs)
          · have hs := hs.2 c62
            refine wp_sipush (v := (-1005 : Int32)) dX7_set_68 (by decide) ?_
            exact wp_ireturn rfl rfl dX7_set_71 (hQ _ _ hs)
        · have hs := hs.2 c61
          refine wp_sipush (v := (-1002 : Int32)) dX7_set_51 (by decide) ?_
          exact wp_ireturn rfl rfl dX7_set_54 (hQ _ _ hs)
abbrev iX7_layOver : MI := (cX7_layOver, 1, some .int, RX7, yX7_layOver, wsX7_layOver)
theorem hy_X7_layOver : yX7_layOver.cls = RX7 ∧ yX7_layOver.cls ≠ "java/lang/invoke/MethodHandle" ∧ yX7_layOver.cls ≠ "java/lang/invoke/VarHandle" ∧ (parseMethodDescriptor yX7_layOver.desc).map (fun d => d.parameters.length) = some 0 := by decide +kernel
theorem in_X7_layOver_X7 : ∀ w ∈ u_ws RX7 TX7 13, w ∈ wsX7_layOver := by decide +kernel
theorem fl_X7_layOver_7 : Cond.fieldLink RX7 7 (TX7 0).1 (TX7 0).2.1 (TX7 0).2.2.1 ∈ wsX7_layOver := by decide +kernel
def w_X7_layOver (M : Nat → Nat → Int32) (Q : Int32 → (Nat → Nat → Int32) → Prop) : Prop := w_X7_know M (fun M1 => ∀ M2 : Nat → Nat → Int32, M2 = um M1 1 (upd (M1 1) 17 ((nI 1) - (M1 1 17))) → Q (M2 1 17) M2)
set_option maxHeartbeats 4000000 in
set_option maxRecDepth 100000 in
theorem mw_X7_layOver {E : EN} {M : Nat → Nat → Int32} {Q : Int32 → (Nat → Nat → Int32) → Prop} (hs : w_X7_layOver M Q) : MW E iX7_layOver 2 0 0 false [.ref 0] σM 10 M (qI σM 10 Q) := by
  refine mw_intro (ls := [(0, .ref 0)]) rfl (by decide +kernel) rfl rfl (Nat.le_of_ble_eq_true rfl) ?_
  have hQ : ∀ x M, Q x M → (qI σM 10 Q) (some (.int x)) σM 10 M := fun _ _ h => ⟨_, rfl, rfl, rfl, h⟩
  generalize (qI σM 10 Q) = Qf at hQ ⊢
  unfold w_X7_layOver at hs
  refine wp_aload_n 0 dX7_layOver_0 rfl ?_
  refine wp_cVv (As := []) (st := []) (mw_X7_know  hs) gX7_layOver_X7_know rfl hy_X7_know rfl rfl (by decide) rfl (by decide) (by decide) (Nat.le_of_ble_eq_true rfl) rfl dX7_layOver_1 (fun  M1 hs => ?_)
  refine wp_aload_n 0 dX7_layOver_4 rfl ?_
  refine wp_get (v := .ref 1) dX7_layOver_5 rfl (by decide) rfl in_X7_layOver_X7 0 (by decide) fl_X7_layOver_7 rfl rfl ?_
  refine wp_bipush (v := (nI 17)) dX7_layOver_8 (by decide) ?_
  refine wp_iconst (v := (nI 1)) dX7_layOver_10 (by decide) ?_
  refine wp_aload_n 0 dX7_layOver_11 rfl ?_
  refine wp_get (v := .ref 1) dX7_layOver_12 rfl (by decide) rfl in_X7_layOver_X7 0 (by decide) fl_X7_layOver_7 rfl rfl ?_
  refine wp_bipush (v := (nI 17)) dX7_layOver_15 (by decide) ?_
  refine wp_iald rfl (by decide) (vil rfl) dX7_layOver_17 ?_
  refine wp_isub dX7_layOver_18 ?_
  refine wp_iast rfl (by decide) (vil rfl) dX7_layOver_19 (fun M2 eM2 => ?_)
  have hs := hs M2 eM2
  refine wp_aload_n 0 dX7_layOver_20 rfl ?_
  refine wp_get (v := .ref 1) dX7_layOver_21 rfl (by decide) rfl in_X7_layOver_X7 0 (by decide) fl_X7_layOver_7 rfl rfl ?_
  refine wp_bipush (v := (nI 17)) dX7_layOver_24 (by decide) ?_
  refine wp_iald rfl (by decide) (vil rfl) dX7_layOver_26 ?_
  exact wp_ireturn rfl rfl dX7_layOver_27 (hQ _ _ hs)
abbrev iX7_does : MI := (cX7_does, 2, some .int, RX7, yX7_does, wsX7_does)
theorem hy_X7_does : yX7_does.cls = RX7 ∧ yX7_does.cls ≠ "java/lang/invoke/MethodHandle" ∧ yX7_does.cls ≠ "java/lang/invoke/VarHandle" ∧ (parseMethodDescriptor yX7_does.desc).map (fun d => d.parameters.length) = some 1 := by decide +kernel
theorem in_X7_does_X7 : ∀ w ∈ u_ws RX7 TX7 13, w ∈ wsX7_does := by decide +kernel
theorem fl_X7_does_7 : Cond.fieldLink RX7 7 (TX7 0).1 (TX7 0).2.1 (TX7 0).2.2.1 ∈ wsX7_does := by decide +kernel
def w_X7_does (a : Int32) (M : Nat → Nat → Int32) (Q : Int32 → (Nat → Nat → Int32) → Prop) : Prop := ∀ M1 : Nat → Nat → Int32, M1 = um M 1 (upd (M 1) 16 ((M 1 16) ||| ((nI 1) <<< (a &&& 31)))) → ∀ M2 : Nat → Nat → Int32, M2 = um M1 1 (upd (M1 1) 22 ((M1 1 22) + (nI 1))) → w_X7_many (M2 1 16) M2 (fun v4 M3 => Q v4 M3)
set_option maxHeartbeats 4000000 in
set_option maxRecDepth 100000 in
theorem mw_X7_does {E : EN} {a : Int32} {M : Nat → Nat → Int32} {Q : Int32 → (Nat → Nat → Int32) → Prop} (hs : w_X7_does a M Q) : MW E iX7_does 2 0 0 false [.ref 0, .int a] σM 10 M (qI σM 10 Q) := by
  refine mw_intro (ls := [(0, .ref 0), (1, .int a)]) rfl (by decide +kernel) rfl rfl (Nat.le_of_ble_eq_true rfl) ?_
  have hQ : ∀ x M, Q x M → (qI σM 10 Q) (some (.int x)) σM 10 M := fun _ _ h => ⟨_, rfl, rfl, rfl, h⟩
  generalize (qI σM 10 Q) = Qf at hQ ⊢
  unfold w_X7_does at hs
  refine wp_aload_n 0 dX7_does_0 rfl ?_
  refine wp_get (v := .ref 1) dX7_does_1 rfl (by decide) rfl in_X7_does_X7 0 (by decide) fl_X7_does_7 rfl rfl ?_
  refine wp_bipush (v := (nI 16)) dX7_does_4 (by decide) ?_
  refine wp_dup2 rfl rfl dX7_does_6 ?_
  refine wp_iald rfl (by decide) (vil rfl) dX7_does_7 ?_
  refine wp_iconst (v := (nI 1)) dX7_does_8 (by decide) ?_
  refine wp_iload_n 1 dX7_does_9 rfl ?_
  refine wp_ishl dX7_does_10 ?_
  refine wp_ior dX7_does_11 ?_
  refine wp_iast rfl (by decide) (vil rfl) dX7_does_12 (fun M1 eM1 => ?_)
  have hs := hs M1 eM1
  refine wp_aload_n 0 dX7_does_13 rfl ?_
  refine wp_get (v := .ref 1) dX7_does_14 rfl (by decide) rfl in_X7_does_X7 0 (by decide) fl_X7_does_7 rfl rfl ?_
  refine wp_bipush (v := (nI 22)) dX7_does_17 (by decide) ?_
  refine wp_dup2 rfl rfl dX7_does_19 ?_
  refine wp_iald rfl (by decide) (vil rfl) dX7_does_20 ?_
  refine wp_iconst (v := (nI 1)) dX7_does_21 (by decide) ?_
  refine wp_iadd dX7_does_22 ?_
  refine wp_iast rfl (by decide) (vil rfl) dX7_does_23 (fun M2 eM2 => ?_)
  have hs := hs M2 eM2
  refine wp_aload_n 0 dX7_does_24 rfl ?_
  refine wp_get (v := .ref 1) dX7_does_25 rfl (by decide) rfl in_X7_does_X7 0 (by decide) fl_X7_does_7 rfl rfl ?_
  refine wp_bipush (v := (nI 16)) dX7_does_28 (by decide) ?_
  refine wp_iald rfl (by decide) (vil rfl) dX7_does_30 ?_
  refine wp_cSi (As := [.int (M2 1 16)]) (st := []) (mw_X7_many  hs) gX7_does_X7_many rfl hy_X7_many rfl (by decide) (by decide) (Nat.le_of_ble_eq_true rfl) rfl dX7_does_31 (fun v4 M3 hs => ?_)
  exact wp_ireturn rfl rfl dX7_does_34 (hQ _ _ hs)
abbrev iX7_bend : MI := (cX7_bend, 2, some .int, RX7, yX7_bend, wsX7_bend)
theorem hy_X7_bend : yX7_bend.cls = RX7 ∧ yX7_bend.cls ≠ "java/lang/invoke/MethodHandle" ∧ yX7_bend.cls ≠ "java/lang/invoke/VarHandle" ∧ (parseMethodDescriptor yX7_bend.desc).map (fun d => d.parameters.length) = some 1 := by decide +kernel
theorem in_X7_bend_X7 : ∀ w ∈ u_ws RX7 TX7 13, w ∈ wsX7_bend := by decide +kernel
theorem fl_X7_bend_7 : Cond.fieldLink RX7 7 (TX7 0).1 (TX7 0).2.1 (TX7 0).2.2.1 ∈ wsX7_bend := by decide +kernel
def w_X7_bend (a : Int32) (M : Nat → Nat → Int32) (Q : Int32 → (Nat → Nat → Int32) → Prop) : Prop := w_X7_isBend a M (fun v2 M1 => ((¬ v2 = 0 → w_X7_reason a (M1 1 16) (M1 1 17) M1 (fun v5 M4 => ((v5 = 0 → w_X7_know M4 (fun M7 => w_X7_does a M7 (fun v9 M8 => Q v9 M8))) ∧ (¬ v5 = 0 → Q (-1004 : Int32) M4)))) ∧ (v2 = 0 → Q (-1001 : Int32) M1)))
set_option maxHeartbeats 4000000 in
set_option maxRecDepth 100000 in
theorem mw_X7_bend {E : EN} {a : Int32} {M : Nat → Nat → Int32} {Q : Int32 → (Nat → Nat → Int32) → Prop} (hs : w_X7_bend a M Q) : MW E iX7_bend 6 0 0 false [.ref 0, .int a] σM 10 M (qI σM 10 Q) := by
  refine mw_intro (ls := [(0, .ref 0), (1, .int a)]) rfl (by decide +kernel) rfl rfl (Nat.le_of_ble_eq_true rfl) ?_
  have hQ : ∀ x M, Q x M → (qI σM 10 Q) (some (.int x)) σM 10 M := fun _ _ h => ⟨_, rfl, rfl, rfl, h⟩
  generalize (qI σM 10 Q) = Qf at hQ ⊢
  unfold w_X7_bend at hs
  refine wp_aload_n 0 dX7_bend_0 rfl ?_
  refine wp_iload_n 1 dX7_bend_1 rfl ?_
  refine wp_cVi (As := [.int a]) (st := []) (mw_X7_isBend  hs) gX7_bend_X7_isBend rfl hy_X7_isBend rfl rfl (by decide) rfl (by decide) (by decide) (Nat.le_of_ble_eq_true rfl) rfl dX7_bend_2 (fun v2 M1 hs => ?_)
  refine wp_if_ne (tgt := 12) dX7_bend_5 (by decide) (fun c3 => ?_) (fun c3 => ?_)
  · have hs := hs.1 c3
    refine wp_aload_n 0 dX7_bend_12 rfl ?_
    refine wp_iload_n 1 dX7_bend_13 rfl ?_
    refine wp_aload_n 0 dX7_bend_14 rfl ?_
    refine wp_get (v := .ref 1) dX7_bend_15 rfl (by decide) rfl in_X7_bend_X7 0 (by decide) fl_X7_bend_7 rfl rfl ?_
    refine wp_bipush (v := (nI 16)) dX7_bend_18 (by decide) ?_
    refine wp_iald rfl (by decide) (vil rfl) dX7_bend_20 ?_
    refine wp_aload_n 0 dX7_bend_21 rfl ?_
    refine wp_get (v := .ref 1) dX7_bend_22 rfl (by decide) rfl in_X7_bend_X7 0 (by decide) fl_X7_bend_7 rfl rfl ?_
    refine wp_bipush (v := (nI 17)) dX7_bend_25 (by decide) ?_
    refine wp_iald rfl (by decide) (vil rfl) dX7_bend_27 ?_
    refine wp_cVi (As := [.int a, .int (M1 1 16), .int (M1 1 17)]) (st := []) (mw_X7_reason  hs) gX7_bend_X7_reason rfl hy_X7_reason rfl rfl (by decide) rfl (by decide) (by decide) (Nat.le_of_ble_eq_true rfl) rfl dX7_bend_28 (fun v5 M4 hs => ?_)
    refine wp_if_eq (tgt := 38) dX7_bend_31 (by decide) (fun c6 => ?_) (fun c6 => ?_)
    · have hs := hs.1 c6
      refine wp_aload_n 0 dX7_bend_38 rfl ?_
      refine wp_cVv (As := []) (st := []) (mw_X7_know  hs) gX7_bend_X7_know rfl hy_X7_know rfl rfl (by decide) rfl (by decide) (by decide) (Nat.le_of_ble_eq_true rfl) rfl dX7_bend_39 (fun  M7 hs => ?_)
      refine wp_aload_n 0 dX7_bend_42 rfl ?_
      refine wp_iload_n 1 dX7_bend_43 rfl ?_
      refine wp_cVi (As := [.int a]) (st := []) (mw_X7_does  hs) gX7_bend_X7_does rfl hy_X7_does rfl rfl (by decide) rfl (by decide) (by decide) (Nat.le_of_ble_eq_true rfl) rfl dX7_bend_44 (fun v9 M8 hs => ?_)
      exact wp_ireturn rfl rfl dX7_bend_47 (hQ _ _ hs)
    · have hs := hs.2 c6
      refine wp_sipush (v := (-1004 : Int32)) dX7_bend_34 (by decide) ?_
      exact wp_ireturn rfl rfl dX7_bend_37 (hQ _ _ hs)
  · have hs := hs.2 c3
    refine wp_sipush (v := (-1001 : Int32)) dX7_bend_8 (by decide) ?_
    exact wp_ireturn rfl rfl dX7_bend_11 (hQ _ _ hs)
abbrev iX7_flatten : MI := (cX7_flatten, 2, some .int, RX7, yX7_flatten, wsX7_flatten)
theorem hy_X7_flatten : yX7_flatten.cls = RX7 ∧ yX7_flatten.cls ≠ "java/lang/invoke/MethodHandle" ∧ yX7_flatten.cls ≠ "java/lang/invoke/VarHandle" ∧ (parseMethodDescriptor yX7_flatten.desc).map (fun d => d.parameters.length) = some 1 := by decide +kernel
theorem in_X7_flatten_X7 : ∀ w ∈ u_ws RX7 TX7 13, w ∈ wsX7_flatten := by decide +kernel
theorem fl_X7_flatten_7 : Cond.fieldLink RX7 7 (TX7 0).1 (TX7 0).2.1 (TX7 0).2.2.1 ∈ wsX7_flatten := by decide +kernel
def w_X7_flatten (a : Int32) (M : Nat → Nat → Int32) (Q : Int32 → (Nat → Nat → Int32) → Prop) : Prop := w_X7_isBend a M (fun v2 M1 => ((¬ v2 = 0 → w_X7_has (M1 1 16) a M1 (fun v5 M4 => ((¬ v5 = 0 → w_X7_know M4 (fun M7 => ∀ M8 : Nat → Nat → Int32, M8 = um M7 1 (upd (M7 1) 16 ((M7 1 16) - ((nI 1) <<< (a &&& 31)))) → w_X7_many (M8 1 16) M8 (fun v10 M9 => Q v10 M9))) ∧ (v5 = 0 → Q (-1005 : Int32) M4)))) ∧ (v2 = 0 → Q (-1001 : Int32) M1)))
set_option maxHeartbeats 4000000 in
set_option maxRecDepth 100000 in
theorem mw_X7_flatten {E : EN} {a : Int32} {M : Nat → Nat → Int32} {Q : Int32 → (Nat → Nat → Int32) → Prop} (hs : w_X7_flatten a M Q) : MW E iX7_flatten 3 0 0 false [.ref 0, .int a] σM 10 M (qI σM 10 Q) := by
  refine mw_intro (ls := [(0, .ref 0), (1, .int a)]) rfl (by decide +kernel) rfl rfl (Nat.le_of_ble_eq_true rfl) ?_
  have hQ : ∀ x M, Q x M → (qI σM 10 Q) (some (.int x)) σM 10 M := fun _ _ h => ⟨_, rfl, rfl, rfl, h⟩
  generalize (qI σM 10 Q) = Qf at hQ ⊢
  unfold w_X7_flatten at hs
  refine wp_aload_n 0 dX7_flatten_0 rfl ?_
  refine wp_iload_n 1 dX7_flatten_1 rfl ?_
  refine wp_cVi (As := [.int a]) (st := []) (mw_X7_isBend  hs) gX7_flatten_X7_isBend rfl hy_X7_isBend rfl rfl (by decide) rfl (by decide) (by decide) (Nat.le_of_ble_eq_true rfl) rfl dX7_flatten_2 (fun v2 M1 hs => ?_)
  refine wp_if_ne (tgt := 12) dX7_flatten_5 (by decide) (fun c3 => ?_) (fun c3 => ?_)
  · have hs := hs.1 c3
    refine wp_aload_n 0 dX7_flatten_12 rfl ?_
    refine wp_get (v := .ref 1) dX7_flatten_13 rfl (by decide) rfl in_X7_flatten_X7 0 (by decide) fl_X7_flatten_7 rfl rfl ?_
    refine wp_bipush (v := (nI 16)) dX7_flatten_16 (by decide) ?_
    refine wp_iald rfl (by decide) (vil rfl) dX7_flatten_18 ?_
    refine wp_iload_n 1 dX7_flatten_19 rfl ?_
    refine wp_cSi (As := [.int (M1 1 16), .int a]) (st := []) (mw_X7_has  hs) gX7_flatten_X7_has rfl hy_X7_has rfl (by decide) (by decide) (Nat.le_of_ble_eq_true rfl) rfl dX7_flatten_20 (fun v5 M4 hs => ?_)
    refine wp_if_ne (tgt := 30) dX7_flatten_23 (by decide) (fun c6 => ?_) (fun c6 => ?_)
    · have hs := hs.1 c6
      refine wp_aload_n 0 dX7_flatten_30 rfl ?_
      refine wp_cVv (As := []) (st := []) (mw_X7_know  hs) gX7_flatten_X7_know rfl hy_X7_know rfl rfl (by decide) rfl (by decide) (by decide) (Nat.le_of_ble_eq_true rfl) rfl dX7_flatten_31 (fun  M7 hs => ?_)
      refine wp_aload_n 0 dX7_flatten_34 rfl ?_
      refine wp_get (v := .ref 1) dX7_flatten_35 rfl (by decide) rfl in_X7_flatten_X7 0 (by decide) fl_X7_flatten_7 rfl rfl ?_
      refine wp_bipush (v := (nI 16)) dX7_flatten_38 (by decide) ?_
      refine wp_dup2 rfl rfl dX7_flatten_40 ?_
      refine wp_iald rfl (by decide) (vil rfl) dX7_flatten_41 ?_
      refine wp_iconst (v := (nI 1)) dX7_flatten_42 (by decide) ?_
      refine wp_iload_n 1 dX7_flatten_43 rfl ?_
      refine wp_ishl dX7_flatten_44 ?_
      refine wp_isub dX7_flatten_45 ?_
      refine wp_iast rfl (by decide) (vil rfl) dX7_flatten_46 (fun M8 eM8 => ?_)
      have hs := hs M8 eM8
      refine wp_aload_n 0 dX7_flatten_47 rfl ?_
      refine wp_get (v := .ref 1) dX7_flatten_48 rfl (by decide) rfl in_X7_flatten_X7 0 (by decide) fl_X7_flatten_7 rfl rfl ?_
      refine wp_bipush (v := (nI 16)) dX7_flatten_51 (by decide) ?_
      refine wp_iald rfl (by decide) (vil rfl) dX7_flatten_53 ?_
      refine wp_cSi (As := [.int (M8 1 16)]) (st := []) (mw_X7_many  hs) gX7_flatten_X7_many rfl hy_X7_many rfl (by decide) (by decide) (Nat.le_of_ble_eq_true rfl) rfl dX7_flatten_54 (fun v10 M9 hs => ?_)
      exact wp_ireturn rfl rfl dX7_flatten_57 (hQ _ _ hs)
    · have hs := hs.2 c6
      refine wp_sipush (v := (-1005 : Int32)) dX7_flatten_26 (by decide) ?_
      exact wp_ireturn rfl rfl dX7_flatten_29 (hQ _ _ hs)
  · have hs := hs.2 c3
    refine wp_sipush (v := (-1001 : Int32)) dX7_flatten_8 (by decide) ?_
    exact wp_ireturn rfl rfl dX7_flatten_11 (hQ _ _ hs)
abbrev iX7_follow : MI := (cX7_follow, 5, some .int, RX7, yX7_follow, wsX7_follow)
theorem hy_X7_follow : yX7_follow.cls = RX7 ∧ yX7_follow.cls ≠ "java/lang/invoke/MethodHandle" ∧ yX7_follow.cls ≠ "java/lang/invoke/VarHandle" ∧ (parseMethodDescriptor yX7_follow.desc).map (fun d => d.parameters.length) = some 1 := by decide +kernel
theorem in_X7_follow_X7 : ∀ w ∈ u_ws RX7 TX7 13, w ∈ wsX7_follow := by decide +kernel
theorem fl_X7_follow_7 : Cond.fieldLink RX7 7 (TX7 0).1 (TX7 0).2.1 (TX7 0).2.2.1 ∈ wsX7_follow := by decide +kernel
def w_X7_follow_49 : Nat → Int32 → Int32 → (Nat → Nat → Int32) → (Int32 → (Nat → Nat → Int32) → Prop) → Prop
  | 0, _, _, _, _ => False
  | n + 1, x1, x2, M, K => ((x1 ≤ x2 → K x2 M) ∧ (¬ x1 ≤ x2 → w_X7_all M (fun v13 M12 => (((M 1 16) = v13 → K x2 M12) ∧ (¬ (M 1 16) = v13 → w_X7_nextOf (M12 1 16) M12 (fun v16 M15 => (vp_in ((nI 9) + v16) 23 ∧ ∀ M17 : Nat → Nat → Int32, M17 = um M15 1 (upd (M15 1) 17 ((nI 1) - (M15 1 ((nI 9) + v16).toNatClampNeg))) → w_X7_does v16 M17 (fun v19 M18 => ∀ y20 : Int32, y20 = x2 + (nI 1) → w_X7_follow_49 n x1 y20 M18 K))))))))
set_option maxHeartbeats 4000000 in
set_option maxRecDepth 100000 in
theorem lp_X7_follow_49 {E : EN} {x1 : Int32} {Qf : PST} {K : Int32 → (Nat → Nat → Int32) → Prop} (hK : ∀ (z2 : Int32) (M : Nat → Nat → Int32), K z2 M → WP E iX7_follow 8 0 0 false 111 [(0, .ref 0)] [] σM 10 M Qf) : ∀ (nn : Nat) (x2 : Int32) (M : Nat → Nat → Int32), w_X7_follow_49 nn x1 x2 M K → WP E iX7_follow 8 0 0 false 49 [(0, .ref 0), (1, .int x1), (2, .int x2)] [] σM 10 M Qf := by
  intro nn
  induction nn with
  | zero => intro x2 M hs; exact hs.elim
  | succ n ih =>
    intro x2 M hs
    unfold w_X7_follow_49 at hs
    refine wp_iload_n 2 dX7_follow_49 rfl ?_
    refine wp_iload_n 1 dX7_follow_50 rfl ?_
    refine wp_icmp_ge (tgt := 111) dX7_follow_51 (by decide) (fun c11 => ?_) (fun c11 => ?_)
    · have hs := hs.1 c11
      refine wp_sub (ls' := [(0, .ref 0)]) [0] rfl ?_
      exact hK _ _ hs
    · have hs := hs.2 c11
      refine wp_aload_n 0 dX7_follow_54 rfl ?_
      refine wp_get (v := .ref 1) dX7_follow_55 rfl (by decide) rfl in_X7_follow_X7 0 (by decide) fl_X7_follow_7 rfl rfl ?_
      refine wp_bipush (v := (nI 16)) dX7_follow_58 (by decide) ?_
      refine wp_iald rfl (by decide) (vil rfl) dX7_follow_60 ?_
      refine wp_aload_n 0 dX7_follow_61 rfl ?_
      refine wp_cVi (As := []) (st := [.int (M 1 16)]) (mw_X7_all  hs) gX7_follow_X7_all rfl hy_X7_all rfl rfl (by decide) rfl (by decide) (by decide) (Nat.le_of_ble_eq_true rfl) rfl dX7_follow_62 (fun v13 M12 hs => ?_)
      refine wp_icmp_eq (tgt := 111) dX7_follow_65 (by decide) (fun c14 => ?_) (fun c14 => ?_)
      · have hs := hs.1 c14
        refine wp_sub (ls' := [(0, .ref 0)]) [0] rfl ?_
        exact hK _ _ hs
      · have hs := hs.2 c14
        refine wp_aload_n 0 dX7_follow_68 rfl ?_
        refine wp_aload_n 0 dX7_follow_69 rfl ?_
        refine wp_get (v := .ref 1) dX7_follow_70 rfl (by decide) rfl in_X7_follow_X7 0 (by decide) fl_X7_follow_7 rfl rfl ?_
        refine wp_bipush (v := (nI 16)) dX7_follow_73 (by decide) ?_
        refine wp_iald rfl (by decide) (vil rfl) dX7_follow_75 ?_
        refine wp_cVi (As := [.int (M12 1 16)]) (st := []) (mw_X7_nextOf  hs) gX7_follow_X7_nextOf rfl hy_X7_nextOf rfl rfl (by decide) rfl (by decide) (by decide) (Nat.le_of_ble_eq_true rfl) rfl dX7_follow_76 (fun v16 M15 hs => ?_)
        refine wp_istore_n (ls' := [(0, .ref 0), (1, .int x1), (2, .int x2), (3, .int v16)]) [1, 2, 3, 0] dX7_follow_79 rfl (by decide) ?_
        refine wp_aload_n 0 dX7_follow_80 rfl ?_
        refine wp_get (v := .ref 1) dX7_follow_81 rfl (by decide) rfl in_X7_follow_X7 0 (by decide) fl_X7_follow_7 rfl rfl ?_
        refine wp_bipush (v := (nI 17)) dX7_follow_84 (by decide) ?_
        refine wp_iconst (v := (nI 1)) dX7_follow_86 (by decide) ?_
        refine wp_aload_n 0 dX7_follow_87 rfl ?_
        refine wp_get (v := .ref 1) dX7_follow_88 rfl (by decide) rfl in_X7_follow_X7 0 (by decide) fl_X7_follow_7 rfl rfl ?_
        refine wp_bipush (v := (nI 9)) dX7_follow_91 (by decide) ?_
        refine wp_iload_n 3 dX7_follow_93 rfl ?_
        refine wp_iadd dX7_follow_94 ?_
        have hv := hs.1
        have hs := hs.2
        refine wp_iald rfl (by decide) hv dX7_follow_95 ?_
        refine wp_isub dX7_follow_96 ?_
        refine wp_iast rfl (by decide) (vil rfl) dX7_follow_97 (fun M17 eM17 => ?_)
        have hs := hs M17 eM17
        refine wp_aload_n 0 dX7_follow_98 rfl ?_
        refine wp_iload_n 3 dX7_follow_99 rfl ?_
        refine wp_cVi (As := [.int v16]) (st := []) (mw_X7_does  hs) gX7_follow_X7_does rfl hy_X7_does rfl rfl (by decide) rfl (by decide) (by decide) (Nat.le_of_ble_eq_true rfl) rfl dX7_follow_100 (fun v19 M18 hs => ?_)
        refine wp_istore (ls' := [(0, .ref 0), (1, .int x1), (2, .int x2), (3, .int v16), (4, .int v19)]) [1, 2, 3, 4, 0] dX7_follow_103 rfl (by decide) ?_
        obtain ⟨y20, ey20⟩ : ∃ y : Int32, y = x2 + (nI 1) := ⟨_, rfl⟩
        have hs := hs y20 ey20
        refine wp_iinc (v := y20) (ls' := [(0, .ref 0), (1, .int x1), (2, .int y20), (3, .int v16), (4, .int v19)]) 2 [1, 2, 0, 3, 4] dX7_follow_105 rfl (by rw [ey20]; rfl) rfl (by decide) ?_
        refine wp_goto (tgt := 49) dX7_follow_108 (by decide) ?_
        refine wp_sub (ls' := [(0, .ref 0), (1, .int x1), (2, .int y20)]) [0, 1, 2] rfl ?_
        exact ih _ _ hs
def w_X7_follow (a : Int32) (M : Nat → Nat → Int32) (Q : Int32 → (Nat → Nat → Int32) → Prop) : Prop := w_X7_in a (nI 1) (nI 7) M (fun v2 M1 => ((¬ v2 = 0 → w_X7_allOrders M1 (fun v5 M4 => ((¬ v5 = 0 → w_X7_all M4 (fun v8 M7 => ((¬ (M4 1 16) = v8 → w_X7_know M7 (fun M10 => w_X7_follow_49 FU a (nI 0) M10 (fun y21 M22 => w_X7_many (M22 1 16) M22 (fun v24 M23 => Q v24 M23)))) ∧ ((M4 1 16) = v8 → Q (-1005 : Int32) M7)))) ∧ (v5 = 0 → Q (-1004 : Int32) M4)))) ∧ (v2 = 0 → Q (-1002 : Int32) M1)))
set_option maxHeartbeats 4000000 in
set_option maxRecDepth 100000 in
theorem mw_X7_follow {E : EN} {a : Int32} {M : Nat → Nat → Int32} {Q : Int32 → (Nat → Nat → Int32) → Prop} (hs : w_X7_follow a M Q) : MW E iX7_follow 8 0 0 false [.ref 0, .int a] σM 10 M (qI σM 10 Q) := by
  refine mw_intro (ls := [(0, .ref 0), (1, .int a)]) rfl (by decide +kernel) rfl rfl (Nat.le_of_ble_eq_true rfl) ?_
  have hQ : ∀ x M, Q x M → (qI σM 10 Q) (some (.int x)) σM 10 M := fun _ _ h => ⟨_, rfl, rfl, rfl, h⟩
  generalize (qI σM 10 Q) = Qf at hQ ⊢
  unfold w_X7_follow at hs
  refine wp_iload_n 1 dX7_follow_0 rfl ?_
  refine wp_iconst (v := (nI 1)) dX7_follow_1 (by decide) ?_
  refine wp_bipush (v := (nI 7)) dX7_follow_2 (by decide) ?_
  refine wp_cSi (As := [.int a, .int (nI 1), .int (nI 7)]) (st := []) (mw_X7_in  hs) gX7_follow_X7_in rfl hy_X7_in rfl (by decide) (by decide) (Nat.le_of_ble_eq_true rfl) rfl dX7_follow_4 (fun v2 M1 hs => ?_)
  refine wp_if_ne (tgt := 14) dX7_follow_7 (by decide) (fun c3 => ?_) (fun c3 => ?_)
  · have hs := hs.1 c3
    refine wp_aload_n 0 dX7_follow_14 rfl ?_
    refine wp_cVi (As := []) (st := []) (mw_X7_allOrders  hs) gX7_follow_X7_allOrders rfl hy_X7_allOrders rfl rfl (by decide) rfl (by decide) (by decide) (Nat.le_of_ble_eq_true rfl) rfl dX7_follow_15 (fun v5 M4 hs => ?_)
    refine wp_if_ne (tgt := 25) dX7_follow_18 (by decide) (fun c6 => ?_) (fun c6 => ?_)
    · have hs := hs.1 c6
      refine wp_aload_n 0 dX7_follow_25 rfl ?_
      refine wp_get (v := .ref 1) dX7_follow_26 rfl (by decide) rfl in_X7_follow_X7 0 (by decide) fl_X7_follow_7 rfl rfl ?_
      refine wp_bipush (v := (nI 16)) dX7_follow_29 (by decide) ?_
      refine wp_iald rfl (by decide) (vil rfl) dX7_follow_31 ?_
      refine wp_aload_n 0 dX7_follow_32 rfl ?_
      refine wp_cVi (As := []) (st := [.int (M4 1 16)]) (mw_X7_all  hs) gX7_follow_X7_all rfl hy_X7_all rfl rfl (by decide) rfl (by decide) (by decide) (Nat.le_of_ble_eq_true rfl) rfl dX7_follow_33 (fun v8 M7 hs => ?_)
      refine wp_icmp_ne (tgt := 43) dX7_follow_36 (by decide) (fun c9 => ?_) (fun c9 => ?_)
      · have hs := hs.1 c9
        refine wp_aload_n 0 dX7_follow_43 rfl ?_
        refine wp_cVv (As := []) (st := []) (mw_X7_know  hs) gX7_follow_X7_know rfl hy_X7_know rfl rfl (by decide) rfl (by decide) (by decide) (Nat.le_of_ble_eq_true rfl) rfl dX7_follow_44 (fun  M10 hs => ?_)
        refine wp_iconst (v := (nI 0)) dX7_follow_47 (by decide) ?_
        refine wp_istore_n (ls' := [(0, .ref 0), (1, .int a), (2, .int (nI 0))]) [1, 2, 0] dX7_follow_48 rfl (by decide) ?_
        refine wp_sub (ls' := [(0, .ref 0), (1, .int a), (2, .int (nI 0))]) [0, 1, 2] rfl ?_
        refine lp_X7_follow_49 (K := fun y21 M22 => w_X7_many (M22 1 16) M22 (fun v24 M23 => Q v24 M23)) (fun y21 M22 hs => ?_) FU _ _ hs
        refine wp_aload_n 0 dX7_follow_111 rfl ?_
        refine wp_get (v := .ref 1) dX7_follow_112 rfl (by decide) rfl in_X7_follow_X7 0 (by decide) fl_X7_follow_7 rfl rfl ?_
        refine wp_bipush (v := (nI 16)) dX7_follow_115 (by decide) ?_
        refine wp_iald rfl (by decide) (vil rfl) dX7_follow_117 ?_
        refine wp_cSi (As := [.int (M22 1 16)]) (st := []) (mw_X7_many  hs) gX7_follow_X7_many rfl hy_X7_many rfl (by decide) (by decide) (Nat.le_of_ble_eq_true rfl) rfl dX7_follow_118 (fun v24 M23 hs => ?_)
        exact wp_ireturn rfl rfl dX7_follow_121 (hQ _ _ hs)
      · have hs := hs.2 c9
        refine wp_sipush (v := (-1005 : Int32)) dX7_follow_39 (by decide) ?_
        exact wp_ireturn rfl rfl dX7_follow_42 (hQ _ _ hs)
    · have hs := hs.2 c6
      refine wp_sipush (v := (-1004 : Int32)) dX7_follow_21 (by decide) ?_
      exact wp_ireturn rfl rfl dX7_follow_24 (hQ _ _ hs)
  · have hs := hs.2 c3
    refine wp_sipush (v := (-1002 : Int32)) dX7_follow_10 (by decide) ?_
    exact wp_ireturn rfl rfl dX7_follow_13 (hQ _ _ hs)
abbrev iX7_type : MI := (cX7_type, 2, some .int, RX7, yX7_type, wsX7_type)
theorem hy_X7_type : yX7_type.cls = RX7 ∧ yX7_type.cls ≠ "java/lang/invoke/MethodHandle" ∧ yX7_type.cls ≠ "java/lang/invoke/VarHandle" ∧ (parseMethodDescriptor yX7_type.desc).map (fun d => d.parameters.length) = some 1 := by decide +kernel
theorem in_X7_type_X7 : ∀ w ∈ u_ws RX7 TX7 13, w ∈ wsX7_type := by decide +kernel
theorem fl_X7_type_19 : Cond.fieldLink RX7 19 (TX7 5).1 (TX7 5).2.1 (TX7 5).2.2.1 ∈ wsX7_type := by decide +kernel
theorem fl_X7_type_119 : Cond.fieldLink RX7 119 (TX7 6).1 (TX7 6).2.1 (TX7 6).2.2.1 ∈ wsX7_type := by decide +kernel
def w_X7_type (a : Int32) (M : Nat → Nat → Int32) (Q : Int32 → (Nat → Nat → Int32) → Prop) : Prop := ((¬ (M 0 6) = (nI 60) → (vp_in (M 0 6) 60 ∧ ∀ M2 : Nat → Nat → Int32, M2 = um M 4 (upd (M 4) (M 0 6).toNatClampNeg a) → ∀ M3 : Nat → Nat → Int32, M3 = um M2 0 (upd (M2 0) 6 ((M2 0 6) + (nI 1))) → Q (M3 0 6) M3)) ∧ ((M 0 6) = (nI 60) → Q (-1003 : Int32) M))
set_option maxHeartbeats 4000000 in
set_option maxRecDepth 100000 in
theorem mw_X7_type {E : EN} {a : Int32} {M : Nat → Nat → Int32} {Q : Int32 → (Nat → Nat → Int32) → Prop} (hs : w_X7_type a M Q) : MW E iX7_type 1 0 0 false [.ref 0, .int a] σM 10 M (qI σM 10 Q) := by
  refine mw_intro (ls := [(0, .ref 0), (1, .int a)]) rfl (by decide +kernel) rfl rfl (Nat.le_of_ble_eq_true rfl) ?_
  have hQ : ∀ x M, Q x M → (qI σM 10 Q) (some (.int x)) σM 10 M := fun _ _ h => ⟨_, rfl, rfl, rfl, h⟩
  generalize (qI σM 10 Q) = Qf at hQ ⊢
  unfold w_X7_type at hs
  refine wp_aload_n 0 dX7_type_0 rfl ?_
  refine wp_get (v := .int (M 0 6)) dX7_type_1 rfl (by decide) rfl in_X7_type_X7 6 (by decide) fl_X7_type_119 rfl rfl ?_
  refine wp_bipush (v := (nI 60)) dX7_type_4 (by decide) ?_
  refine wp_icmp_ne (tgt := 13) dX7_type_6 (by decide) (fun c1 => ?_) (fun c1 => ?_)
  · have hs := hs.1 c1
    refine wp_aload_n 0 dX7_type_13 rfl ?_
    refine wp_get (v := .ref 4) dX7_type_14 rfl (by decide) rfl in_X7_type_X7 5 (by decide) fl_X7_type_19 rfl rfl ?_
    refine wp_aload_n 0 dX7_type_17 rfl ?_
    refine wp_get (v := .int (M 0 6)) dX7_type_18 rfl (by decide) rfl in_X7_type_X7 6 (by decide) fl_X7_type_119 rfl rfl ?_
    refine wp_iload_n 1 dX7_type_21 rfl ?_
    have hv := hs.1
    have hs := hs.2
    refine wp_iast rfl (by decide) hv dX7_type_22 (fun M2 eM2 => ?_)
    have hs := hs M2 eM2
    refine wp_aload_n 0 dX7_type_23 rfl ?_
    refine wp_dup rfl dX7_type_24 ?_
    refine wp_get (v := .int (M2 0 6)) dX7_type_25 rfl (by decide) rfl in_X7_type_X7 6 (by decide) fl_X7_type_119 rfl rfl ?_
    refine wp_iconst (v := (nI 1)) dX7_type_28 (by decide) ?_
    refine wp_iadd dX7_type_29 ?_
    refine wp_put (ty := .int) tyX7 tyX7_ok nmX7 rfl (by decide) rfl in_X7_type_X7 6 (by decide) fl_X7_type_119 rfl rfl (by decide +kernel) rfl rfl dX7_type_30 (fun M3 eM3 => ?_)
    have hs := hs M3 eM3
    refine wp_aload_n 0 dX7_type_33 rfl ?_
    refine wp_get (v := .int (M3 0 6)) dX7_type_34 rfl (by decide) rfl in_X7_type_X7 6 (by decide) fl_X7_type_119 rfl rfl ?_
    exact wp_ireturn rfl rfl dX7_type_37 (hQ _ _ hs)
  · have hs := hs.2 c1
    refine wp_sipush (v := (-1003 : Int32)) dX7_type_9 (by decide) ?_
    exact wp_ireturn rfl rfl dX7_type_12 (hQ _ _ hs)
abbrev iX7_clearText : MI := (cX7_clearText, 2, some .int, RX7, yX7_clearText, wsX7_clearText)
theorem hy_X7_clearText : yX7_clearText.cls = RX7 ∧ yX7_clearText.cls ≠ "java/lang/invoke/MethodHandle" ∧ yX7_clearText.cls ≠ "java/lang/invoke/VarHandle" ∧ (parseMethodDescriptor yX7_clearText.desc).map (fun d => d.parameters.length) = some 0 := by decide +kernel
theorem in_X7_clearText_X7 : ∀ w ∈ u_ws RX7 TX7 13, w ∈ wsX7_clearText := by decide +kernel
theorem fl_X7_clearText_119 : Cond.fieldLink RX7 119 (TX7 6).1 (TX7 6).2.1 (TX7 6).2.2.1 ∈ wsX7_clearText := by decide +kernel
def w_X7_clearText (M : Nat → Nat → Int32) (Q : Int32 → (Nat → Nat → Int32) → Prop) : Prop := ∀ y1 : Int32, y1 = (M 0 6) → ∀ M2 : Nat → Nat → Int32, M2 = um M 0 (upd (M 0) 6 (nI 0)) → Q y1 M2
set_option maxHeartbeats 4000000 in
set_option maxRecDepth 100000 in
theorem mw_X7_clearText {E : EN} {M : Nat → Nat → Int32} {Q : Int32 → (Nat → Nat → Int32) → Prop} (hs : w_X7_clearText M Q) : MW E iX7_clearText 1 0 0 false [.ref 0] σM 10 M (qI σM 10 Q) := by
  refine mw_intro (ls := [(0, .ref 0)]) rfl (by decide +kernel) rfl rfl (Nat.le_of_ble_eq_true rfl) ?_
  have hQ : ∀ x M, Q x M → (qI σM 10 Q) (some (.int x)) σM 10 M := fun _ _ h => ⟨_, rfl, rfl, rfl, h⟩
  generalize (qI σM 10 Q) = Qf at hQ ⊢
  unfold w_X7_clearText at hs
  refine wp_aload_n 0 dX7_clearText_0 rfl ?_
  refine wp_get (v := .int (M 0 6)) dX7_clearText_1 rfl (by decide) rfl in_X7_clearText_X7 6 (by decide) fl_X7_clearText_119 rfl rfl ?_
  refine wp_topi (fun y1 ey1 => ?_)
  have hs := hs y1 ey1
  refine wp_istore_n (ls' := [(0, .ref 0), (1, .int y1)]) [1, 0] dX7_clearText_4 rfl (by decide) ?_
  refine wp_aload_n 0 dX7_clearText_5 rfl ?_
  refine wp_iconst (v := (nI 0)) dX7_clearText_6 (by decide) ?_
  refine wp_put (ty := .int) tyX7 tyX7_ok nmX7 rfl (by decide) rfl in_X7_clearText_X7 6 (by decide) fl_X7_clearText_119 rfl rfl (by decide +kernel) rfl rfl dX7_clearText_7 (fun M2 eM2 => ?_)
  have hs := hs M2 eM2
  refine wp_iload_n 1 dX7_clearText_10 rfl ?_
  exact wp_ireturn rfl rfl dX7_clearText_11 (hQ _ _ hs)
abbrev iX7_fault : MI := (cX7_fault, 3, some .int, RX7, yX7_fault, wsX7_fault)
theorem hy_X7_fault : yX7_fault.cls = RX7 ∧ yX7_fault.cls ≠ "java/lang/invoke/MethodHandle" ∧ yX7_fault.cls ≠ "java/lang/invoke/VarHandle" ∧ (parseMethodDescriptor yX7_fault.desc).map (fun d => d.parameters.length) = some 0 := by decide +kernel
theorem in_X7_fault_X7 : ∀ w ∈ u_ws RX7 TX7 13, w ∈ wsX7_fault := by decide +kernel
theorem fl_X7_fault_19 : Cond.fieldLink RX7 19 (TX7 5).1 (TX7 5).2.1 (TX7 5).2.2.1 ∈ wsX7_fault := by decide +kernel
theorem fl_X7_fault_119 : Cond.fieldLink RX7 119 (TX7 6).1 (TX7 6).2.1 (TX7 6).2.2.1 ∈ wsX7_fault := by decide +kernel
def w_X7_fault_2 : Nat → Int32 → (Nat → Nat → Int32) → (Int32 → (Nat → Nat → Int32) → Prop) → (Int32 → (Nat → Nat → Int32) → Prop) → Prop
  | 0, _, _, _, _ => False
  | n + 1, x1, M, Q, K => (((M 0 6) ≤ x1 → K x1 M) ∧ (¬ (M 0 6) ≤ x1 → ((¬ (x1 - x1 / (nI 2) * (nI 2)) = 0 → (vp_in x1 60 ∧ (((M 4 x1.toNatClampNeg) = (nI 117) → (((nI 1) = 0 → Q x1 M) ∧ (¬ (nI 1) = 0 → ((x1 ≤ (nI 14) → ∀ y6 : Int32, y6 = x1 + (nI 1) → w_X7_fault_2 n y6 M Q K) ∧ (¬ x1 ≤ (nI 14) → Q x1 M))))) ∧ (¬ (M 4 x1.toNatClampNeg) = (nI 117) → (vp_in x1 60 ∧ ((¬ (M 4 x1.toNatClampNeg) = (nI 100) → (((nI 0) = 0 → Q x1 M) ∧ (¬ (nI 0) = 0 → ((x1 ≤ (nI 14) → ∀ y10 : Int32, y10 = x1 + (nI 1) → w_X7_fault_2 n y10 M Q K) ∧ (¬ x1 ≤ (nI 14) → Q x1 M))))) ∧ ((M 4 x1.toNatClampNeg) = (nI 100) → (((nI 1) = 0 → Q x1 M) ∧ (¬ (nI 1) = 0 → ((x1 ≤ (nI 14) → ∀ y13 : Int32, y13 = x1 + (nI 1) → w_X7_fault_2 n y13 M Q K) ∧ (¬ x1 ≤ (nI 14) → Q x1 M))))))))))) ∧ ((x1 - x1 / (nI 2) * (nI 2)) = 0 → (vp_in x1 60 ∧ w_X7_in (M 4 x1.toNatClampNeg) (nI 49) (nI 57) M (fun v15 M14 => ((v15 = 0 → Q x1 M14) ∧ (¬ v15 = 0 → ((x1 ≤ (nI 14) → ∀ y18 : Int32, y18 = x1 + (nI 1) → w_X7_fault_2 n y18 M14 Q K) ∧ (¬ x1 ≤ (nI 14) → Q x1 M14))))))))))
set_option maxHeartbeats 4000000 in
set_option maxRecDepth 100000 in
theorem lp_X7_fault_2 {E : EN} {Qf : PST} {Q : Int32 → (Nat → Nat → Int32) → Prop} {K : Int32 → (Nat → Nat → Int32) → Prop} (hQ : ∀ x M, Q x M → Qf (some (.int x)) σM 10 M) (hK : ∀ (z1 : Int32) (M : Nat → Nat → Int32), K z1 M → WP E iX7_fault 2 0 0 false 78 [(0, .ref 0)] [] σM 10 M Qf) : ∀ (nn : Nat) (x1 : Int32) (M : Nat → Nat → Int32), w_X7_fault_2 nn x1 M Q K → WP E iX7_fault 2 0 0 false 2 [(0, .ref 0), (1, .int x1)] [] σM 10 M Qf := by
  intro nn
  induction nn with
  | zero => intro x1 M hs; exact hs.elim
  | succ n ih =>
    intro x1 M hs
    unfold w_X7_fault_2 at hs
    refine wp_iload_n 1 dX7_fault_2 rfl ?_
    refine wp_aload_n 0 dX7_fault_3 rfl ?_
    refine wp_get (v := .int (M 0 6)) dX7_fault_4 rfl (by decide) rfl in_X7_fault_X7 6 (by decide) fl_X7_fault_119 rfl rfl ?_
    refine wp_icmp_ge (tgt := 78) dX7_fault_7 (by decide) (fun c1 => ?_) (fun c1 => ?_)
    · have hs := hs.1 c1
      refine wp_sub (ls' := [(0, .ref 0)]) [0] rfl ?_
      exact hK _ _ hs
    · have hs := hs.2 c1
      refine wp_iload_n 1 dX7_fault_10 rfl ?_
      refine wp_iconst (v := (nI 2)) dX7_fault_11 (by decide) ?_
      refine wp_irem dX7_fault_12 (by decide) ?_
      refine wp_if_ne (tgt := 32) dX7_fault_13 (by decide) (fun c2 => ?_) (fun c2 => ?_)
      · have hs := hs.1 c2
        refine wp_aload_n 0 dX7_fault_32 rfl ?_
        refine wp_get (v := .ref 4) dX7_fault_33 rfl (by decide) rfl in_X7_fault_X7 5 (by decide) fl_X7_fault_19 rfl rfl ?_
        refine wp_iload_n 1 dX7_fault_36 rfl ?_
        have hv := hs.1
        have hs := hs.2
        refine wp_iald rfl (by decide) hv dX7_fault_37 ?_
        refine wp_bipush (v := (nI 117)) dX7_fault_38 (by decide) ?_
        refine wp_icmp_eq (tgt := 54) dX7_fault_40 (by decide) (fun c3 => ?_) (fun c3 => ?_)
        · have hs := hs.1 c3
          refine wp_iconst (v := (nI 1)) dX7_fault_54 (by decide) ?_
          refine wp_goto (tgt := 59) dX7_fault_55 (by decide) ?_
          refine wp_istore_n (ls' := [(0, .ref 0), (1, .int x1), (2, .int (nI 1))]) [1, 2, 0] dX7_fault_59 rfl (by decide) ?_
          refine wp_iload_n 2 dX7_fault_60 rfl ?_
          refine wp_if_eq (tgt := 70) dX7_fault_61 (by decide) (fun c4 => ?_) (fun c4 => ?_)
          · have hs := hs.1 c4
            refine wp_iload_n 1 dX7_fault_70 rfl ?_
            exact wp_ireturn rfl rfl dX7_fault_71 (hQ _ _ hs)
          · have hs := hs.2 c4
            refine wp_iload_n 1 dX7_fault_64 rfl ?_
            refine wp_bipush (v := (nI 14)) dX7_fault_65 (by decide) ?_
            refine wp_icmp_le (tgt := 72) dX7_fault_67 (by decide) (fun c5 => ?_) (fun c5 => ?_)
            · have hs := hs.1 c5
              obtain ⟨y6, ey6⟩ : ∃ y : Int32, y = x1 + (nI 1) := ⟨_, rfl⟩
              have hs := hs y6 ey6
              refine wp_iinc (v := y6) (ls' := [(0, .ref 0), (1, .int y6), (2, .int (nI 1))]) 1 [1, 0, 2] dX7_fault_72 rfl (by rw [ey6]; rfl) rfl (by decide) ?_
              refine wp_goto (tgt := 2) dX7_fault_75 (by decide) ?_
              refine wp_sub (ls' := [(0, .ref 0), (1, .int y6)]) [0, 1] rfl ?_
              exact ih _ _ hs
            · have hs := hs.2 c5
              refine wp_iload_n 1 dX7_fault_70 rfl ?_
              exact wp_ireturn rfl rfl dX7_fault_71 (hQ _ _ hs)
        · have hs := hs.2 c3
          refine wp_aload_n 0 dX7_fault_43 rfl ?_
          refine wp_get (v := .ref 4) dX7_fault_44 rfl (by decide) rfl in_X7_fault_X7 5 (by decide) fl_X7_fault_19 rfl rfl ?_
          refine wp_iload_n 1 dX7_fault_47 rfl ?_
          have hv := hs.1
          have hs := hs.2
          refine wp_iald rfl (by decide) hv dX7_fault_48 ?_
          refine wp_bipush (v := (nI 100)) dX7_fault_49 (by decide) ?_
          refine wp_icmp_ne (tgt := 58) dX7_fault_51 (by decide) (fun c7 => ?_) (fun c7 => ?_)
          · have hs := hs.1 c7
            refine wp_iconst (v := (nI 0)) dX7_fault_58 (by decide) ?_
            refine wp_istore_n (ls' := [(0, .ref 0), (1, .int x1), (2, .int (nI 0))]) [1, 2, 0] dX7_fault_59 rfl (by decide) ?_
            refine wp_iload_n 2 dX7_fault_60 rfl ?_
            refine wp_if_eq (tgt := 70) dX7_fault_61 (by decide) (fun c8 => ?_) (fun c8 => ?_)
            · have hs := hs.1 c8
              refine wp_iload_n 1 dX7_fault_70 rfl ?_
              exact wp_ireturn rfl rfl dX7_fault_71 (hQ _ _ hs)
            · have hs := hs.2 c8
              refine wp_iload_n 1 dX7_fault_64 rfl ?_
              refine wp_bipush (v := (nI 14)) dX7_fault_65 (by decide) ?_
              refine wp_icmp_le (tgt := 72) dX7_fault_67 (by decide) (fun c9 => ?_) (fun c9 => ?_)
              · have hs := hs.1 c9
                obtain ⟨y10, ey10⟩ : ∃ y : Int32, y = x1 + (nI 1) := ⟨_, rfl⟩
                have hs := hs y10 ey10
                refine wp_iinc (v := y10) (ls' := [(0, .ref 0), (1, .int y10), (2, .int (nI 0))]) 1 [1, 0, 2] dX7_fault_72 rfl (by rw [ey10]; rfl) rfl (by decide) ?_
                refine wp_goto (tgt := 2) dX7_fault_75 (by decide) ?_
                refine wp_sub (ls' := [(0, .ref 0), (1, .int y10)]) [0, 1] rfl ?_
                exact ih _ _ hs
              · have hs := hs.2 c9
                refine wp_iload_n 1 dX7_fault_70 rfl ?_
                exact wp_ireturn rfl rfl dX7_fault_71 (hQ _ _ hs)
          · have hs := hs.2 c7
            refine wp_iconst (v := (nI 1)) dX7_fault_54 (by decide) ?_
            refine wp_goto (tgt := 59) dX7_fault_55 (by decide) ?_
            refine wp_istore_n (ls' := [(0, .ref 0), (1, .int x1), (2, .int (nI 1))]) [1, 2, 0] dX7_fault_59 rfl (by decide) ?_
            refine wp_iload_n 2 dX7_fault_60 rfl ?_
            refine wp_if_eq (tgt := 70) dX7_fault_61 (by decide) (fun c11 => ?_) (fun c11 => ?_)
            · have hs := hs.1 c11
              refine wp_iload_n 1 dX7_fault_70 rfl ?_
              exact wp_ireturn rfl rfl dX7_fault_71 (hQ _ _ hs)
            · have hs := hs.2 c11
              refine wp_iload_n 1 dX7_fault_64 rfl ?_
              refine wp_bipush (v := (nI 14)) dX7_fault_65 (by decide) ?_
              refine wp_icmp_le (tgt := 72) dX7_fault_67 (by decide) (fun c12 => ?_) (fun c12 => ?_)
              · have hs := hs.1 c12
                obtain ⟨y13, ey13⟩ : ∃ y : Int32, y = x1 + (nI 1) := ⟨_, rfl⟩
                have hs := hs y13 ey13
                refine wp_iinc (v := y13) (ls' := [(0, .ref 0), (1, .int y13), (2, .int (nI 1))]) 1 [1, 0, 2] dX7_fault_72 rfl (by rw [ey13]; rfl) rfl (by decide) ?_
                refine wp_goto (tgt := 2) dX7_fault_75 (by decide) ?_
                refine wp_sub (ls' := [(0, .ref 0), (1, .int y13)]) [0, 1] rfl ?_
                exact ih _ _ hs
              · have hs := hs.2 c12
                refine wp_iload_n 1 dX7_fault_70 rfl ?_
                exact wp_ireturn rfl rfl dX7_fault_71 (hQ _ _ hs)
      · have hs := hs.2 c2
        refine wp_aload_n 0 dX7_fault_16 rfl ?_
        refine wp_get (v := .ref 4) dX7_fault_17 rfl (by decide) rfl in_X7_fault_X7 5 (by decide) fl_X7_fault_19 rfl rfl ?_
        refine wp_iload_n 1 dX7_fault_20 rfl ?_
        have hv := hs.1
        have hs := hs.2
        refine wp_iald rfl (by decide) hv dX7_fault_21 ?_
        refine wp_bipush (v := (nI 49)) dX7_fault_22 (by decide) ?_
        refine wp_bipush (v := (nI 57)) dX7_fault_24 (by decide) ?_
        refine wp_cSi (As := [.int (M 4 x1.toNatClampNeg), .int (nI 49), .int (nI 57)]) (st := []) (mw_X7_in  hs) gX7_fault_X7_in rfl hy_X7_in rfl (by decide) (by decide) (Nat.le_of_ble_eq_true rfl) rfl dX7_fault_26 (fun v15 M14 hs => ?_)
        refine wp_goto (tgt := 59) dX7_fault_29 (by decide) ?_
        refine wp_istore_n (ls' := [(0, .ref 0), (1, .int x1), (2, .int v15)]) [1, 2, 0] dX7_fault_59 rfl (by decide) ?_
        refine wp_iload_n 2 dX7_fault_60 rfl ?_
        refine wp_if_eq (tgt := 70) dX7_fault_61 (by decide) (fun c16 => ?_) (fun c16 => ?_)
        · have hs := hs.1 c16
          refine wp_iload_n 1 dX7_fault_70 rfl ?_
          exact wp_ireturn rfl rfl dX7_fault_71 (hQ _ _ hs)
        · have hs := hs.2 c16
          refine wp_iload_n 1 dX7_fault_64 rfl ?_
          refine wp_bipush (v := (nI 14)) dX7_fault_65 (by decide) ?_
          refine wp_icmp_le (tgt := 72) dX7_fault_67 (by decide) (fun c17 => ?_) (fun c17 => ?_)
          · have hs := hs.1 c17
            obtain ⟨y18, ey18⟩ : ∃ y : Int32, y = x1 + (nI 1) := ⟨_, rfl⟩
            have hs := hs y18 ey18
            refine wp_iinc (v := y18) (ls' := [(0, .ref 0), (1, .int y18), (2, .int v15)]) 1 [1, 0, 2] dX7_fault_72 rfl (by rw [ey18]; rfl) rfl (by decide) ?_
            refine wp_goto (tgt := 2) dX7_fault_75 (by decide) ?_
            refine wp_sub (ls' := [(0, .ref 0), (1, .int y18)]) [0, 1] rfl ?_
            exact ih _ _ hs
          · have hs := hs.2 c17
            refine wp_iload_n 1 dX7_fault_70 rfl ?_
            exact wp_ireturn rfl rfl dX7_fault_71 (hQ _ _ hs)
def w_X7_fault (M : Nat → Nat → Int32) (Q : Int32 → (Nat → Nat → Int32) → Prop) : Prop := w_X7_fault_2 FU (nI 0) M Q (fun y19 M20 => (((M20 0 6) < (nI 3) → Q (M20 0 6) M20) ∧ (¬ (M20 0 6) < (nI 3) → ((¬ ((M20 0 6) - (M20 0 6) / (nI 2) * (nI 2)) = 0 → Q (-1005 : Int32) M20) ∧ (((M20 0 6) - (M20 0 6) / (nI 2) * (nI 2)) = 0 → Q (M20 0 6) M20)))))
set_option maxHeartbeats 4000000 in
set_option maxRecDepth 100000 in
theorem mw_X7_fault {E : EN} {M : Nat → Nat → Int32} {Q : Int32 → (Nat → Nat → Int32) → Prop} (hs : w_X7_fault M Q) : MW E iX7_fault 2 0 0 false [.ref 0] σM 10 M (qI σM 10 Q) := by
  refine mw_intro (ls := [(0, .ref 0)]) rfl (by decide +kernel) rfl rfl (Nat.le_of_ble_eq_true rfl) ?_
  have hQ : ∀ x M, Q x M → (qI σM 10 Q) (some (.int x)) σM 10 M := fun _ _ h => ⟨_, rfl, rfl, rfl, h⟩
  generalize (qI σM 10 Q) = Qf at hQ ⊢
  unfold w_X7_fault at hs
  refine wp_iconst (v := (nI 0)) dX7_fault_0 (by decide) ?_
  refine wp_istore_n (ls' := [(0, .ref 0), (1, .int (nI 0))]) [1, 0] dX7_fault_1 rfl (by decide) ?_
  refine wp_sub (ls' := [(0, .ref 0), (1, .int (nI 0))]) [0, 1] rfl ?_
  refine lp_X7_fault_2 hQ (K := fun y19 M20 => (((M20 0 6) < (nI 3) → Q (M20 0 6) M20) ∧ (¬ (M20 0 6) < (nI 3) → ((¬ ((M20 0 6) - (M20 0 6) / (nI 2) * (nI 2)) = 0 → Q (-1005 : Int32) M20) ∧ (((M20 0 6) - (M20 0 6) / (nI 2) * (nI 2)) = 0 → Q (M20 0 6) M20))))) (fun y19 M20 hs => ?_) FU _ _ hs
  refine wp_aload_n 0 dX7_fault_78 rfl ?_
  refine wp_get (v := .int (M20 0 6)) dX7_fault_79 rfl (by decide) rfl in_X7_fault_X7 6 (by decide) fl_X7_fault_119 rfl rfl ?_
  refine wp_iconst (v := (nI 3)) dX7_fault_82 (by decide) ?_
  refine wp_icmp_lt (tgt := 95) dX7_fault_83 (by decide) (fun c21 => ?_) (fun c21 => ?_)
  · have hs := hs.1 c21
    refine wp_aload_n 0 dX7_fault_95 rfl ?_
    refine wp_get (v := .int (M20 0 6)) dX7_fault_96 rfl (by decide) rfl in_X7_fault_X7 6 (by decide) fl_X7_fault_119 rfl rfl ?_
    refine wp_goto (tgt := 105) dX7_fault_99 (by decide) ?_
    exact wp_ireturn rfl rfl dX7_fault_105 (hQ _ _ hs)
  · have hs := hs.2 c21
    refine wp_aload_n 0 dX7_fault_86 rfl ?_
    refine wp_get (v := .int (M20 0 6)) dX7_fault_87 rfl (by decide) rfl in_X7_fault_X7 6 (by decide) fl_X7_fault_119 rfl rfl ?_
    refine wp_iconst (v := (nI 2)) dX7_fault_90 (by decide) ?_
    refine wp_irem dX7_fault_91 (by decide) ?_
    refine wp_if_ne (tgt := 102) dX7_fault_92 (by decide) (fun c22 => ?_) (fun c22 => ?_)
    · have hs := hs.1 c22
      refine wp_sipush (v := (-1005 : Int32)) dX7_fault_102 (by decide) ?_
      exact wp_ireturn rfl rfl dX7_fault_105 (hQ _ _ hs)
    · have hs := hs.2 c22
      refine wp_aload_n 0 dX7_fault_95 rfl ?_
      refine wp_get (v := .int (M20 0 6)) dX7_fault_96 rfl (by decide) rfl in_X7_fault_X7 6 (by decide) fl_X7_fault_119 rfl rfl ?_
      refine wp_goto (tgt := 105) dX7_fault_99 (by decide) ?_
      exact wp_ireturn rfl rfl dX7_fault_105 (hQ _ _ hs)
abbrev iX7_takeStrip : MI := (cX7_takeStrip, 3, some .int, RX7, yX7_takeStrip, wsX7_takeStrip)
theorem hy_X7_takeStrip : yX7_takeStrip.cls = RX7 ∧ yX7_takeStrip.cls ≠ "java/lang/invoke/MethodHandle" ∧ yX7_takeStrip.cls ≠ "java/lang/invoke/VarHandle" ∧ (parseMethodDescriptor yX7_takeStrip.desc).map (fun d => d.parameters.length) = some 0 := by decide +kernel
theorem in_X7_takeStrip_X7 : ∀ w ∈ u_ws RX7 TX7 13, w ∈ wsX7_takeStrip := by decide +kernel
theorem fl_X7_takeStrip_7 : Cond.fieldLink RX7 7 (TX7 0).1 (TX7 0).2.1 (TX7 0).2.2.1 ∈ wsX7_takeStrip := by decide +kernel
theorem fl_X7_takeStrip_19 : Cond.fieldLink RX7 19 (TX7 5).1 (TX7 5).2.1 (TX7 5).2.2.1 ∈ wsX7_takeStrip := by decide +kernel
theorem fl_X7_takeStrip_119 : Cond.fieldLink RX7 119 (TX7 6).1 (TX7 6).2.1 (TX7 6).2.2.1 ∈ wsX7_takeStrip := by decide +kernel
def w_X7_takeStrip_36 : Nat → Int32 → (Nat → Nat → Int32) → (Int32 → (Nat → Nat → Int32) → Prop) → Prop
  | 0, _, _, _ => False
  | n + 1, x2, M, K => (((M 0 6) ≤ x2 → K x2 M) ∧ (¬ (M 0 6) ≤ x2 → ((¬ (x2 - x2 / (nI 2) * (nI 2)) = 0 → (vp_in x2 60 ∧ ((¬ (M 4 x2.toNatClampNeg) = (nI 117) → (vp_in ((nI 9) + (x2 / (nI 2))) 23 ∧ ∀ M9 : Nat → Nat → Int32, M9 = um M 1 (upd (M 1) ((nI 9) + (x2 / (nI 2))).toNatClampNeg (nI 0)) → ∀ y10 : Int32, y10 = x2 + (nI 1) → w_X7_takeStrip_36 n y10 M9 K)) ∧ ((M 4 x2.toNatClampNeg) = (nI 117) → (vp_in ((nI 9) + (x2 / (nI 2))) 23 ∧ ∀ M11 : Nat → Nat → Int32, M11 = um M 1 (upd (M 1) ((nI 9) + (x2 / (nI 2))).toNatClampNeg (nI 1)) → ∀ y12 : Int32, y12 = x2 + (nI 1) → w_X7_takeStrip_36 n y12 M11 K))))) ∧ ((x2 - x2 / (nI 2) * (nI 2)) = 0 → (vp_in x2 60 ∧ (vp_in ((nI 1) + (x2 / (nI 2))) 23 ∧ ∀ M13 : Nat → Nat → Int32, M13 = um M 1 (upd (M 1) ((nI 1) + (x2 / (nI 2))).toNatClampNeg ((M 4 x2.toNatClampNeg) - (nI 48))) → ∀ y14 : Int32, y14 = x2 + (nI 1) → w_X7_takeStrip_36 n y14 M13 K))))))
set_option maxHeartbeats 4000000 in
set_option maxRecDepth 100000 in
theorem lp_X7_takeStrip_36 {E : EN} {Qf : PST} {K : Int32 → (Nat → Nat → Int32) → Prop} (hK : ∀ (z2 : Int32) (M : Nat → Nat → Int32), K z2 M → WP E iX7_takeStrip 3 0 0 false 105 [(0, .ref 0)] [] σM 10 M Qf) : ∀ (nn : Nat) (x2 : Int32) (M : Nat → Nat → Int32), w_X7_takeStrip_36 nn x2 M K → WP E iX7_takeStrip 3 0 0 false 36 [(0, .ref 0), (2, .int x2)] [] σM 10 M Qf := by
  intro nn
  induction nn with
  | zero => intro x2 M hs; exact hs.elim
  | succ n ih =>
    intro x2 M hs
    unfold w_X7_takeStrip_36 at hs
    refine wp_iload_n 1 dX7_takeStrip_36 rfl ?_
    refine wp_aload_n 0 dX7_takeStrip_37 rfl ?_
    refine wp_get (v := .int (M 0 6)) dX7_takeStrip_38 rfl (by decide) rfl in_X7_takeStrip_X7 6 (by decide) fl_X7_takeStrip_119 rfl rfl ?_
    refine wp_icmp_ge (tgt := 105) dX7_takeStrip_41 (by decide) (fun c6 => ?_) (fun c6 => ?_)
    · have hs := hs.1 c6
      refine wp_sub (ls' := [(0, .ref 0)]) [0] rfl ?_
      exact hK _ _ hs
    · have hs := hs.2 c6
      refine wp_iload_n 1 dX7_takeStrip_44 rfl ?_
      refine wp_iconst (v := (nI 2)) dX7_takeStrip_45 (by decide) ?_
      refine wp_irem dX7_takeStrip_46 (by decide) ?_
      refine wp_if_ne (tgt := 72) dX7_takeStrip_47 (by decide) (fun c7 => ?_) (fun c7 => ?_)
      · have hs := hs.1 c7
        refine wp_aload_n 0 dX7_takeStrip_72 rfl ?_
        refine wp_get (v := .ref 1) dX7_takeStrip_73 rfl (by decide) rfl in_X7_takeStrip_X7 0 (by decide) fl_X7_takeStrip_7 rfl rfl ?_
        refine wp_bipush (v := (nI 9)) dX7_takeStrip_76 (by decide) ?_
        refine wp_iload_n 1 dX7_takeStrip_78 rfl ?_
        refine wp_iconst (v := (nI 2)) dX7_takeStrip_79 (by decide) ?_
        refine wp_idiv dX7_takeStrip_80 (by decide) ?_
        refine wp_iadd dX7_takeStrip_81 ?_
        refine wp_aload_n 0 dX7_takeStrip_82 rfl ?_
        refine wp_get (v := .ref 4) dX7_takeStrip_83 rfl (by decide) rfl in_X7_takeStrip_X7 5 (by decide) fl_X7_takeStrip_19 rfl rfl ?_
        refine wp_iload_n 1 dX7_takeStrip_86 rfl ?_
        have hv := hs.1
        have hs := hs.2
        refine wp_iald rfl (by decide) hv dX7_takeStrip_87 ?_
        refine wp_bipush (v := (nI 117)) dX7_takeStrip_88 (by decide) ?_
        refine wp_icmp_ne (tgt := 97) dX7_takeStrip_90 (by decide) (fun c8 => ?_) (fun c8 => ?_)
        · have hs := hs.1 c8
          refine wp_iconst (v := (nI 0)) dX7_takeStrip_97 (by decide) ?_
          have hv := hs.1
          have hs := hs.2
          refine wp_iast rfl (by decide) hv dX7_takeStrip_98 (fun M9 eM9 => ?_)
          have hs := hs M9 eM9
          obtain ⟨y10, ey10⟩ : ∃ y : Int32, y = x2 + (nI 1) := ⟨_, rfl⟩
          have hs := hs y10 ey10
          refine wp_iinc (v := y10) (ls' := [(0, .ref 0), (2, .int y10)]) 1 [1, 0] dX7_takeStrip_99 rfl (by rw [ey10]; rfl) rfl (by decide) ?_
          refine wp_goto (tgt := 36) dX7_takeStrip_102 (by decide) ?_
          refine wp_sub (ls' := [(0, .ref 0), (2, .int y10)]) [0, 1] rfl ?_
          exact ih _ _ hs
        · have hs := hs.2 c8
          refine wp_iconst (v := (nI 1)) dX7_takeStrip_93 (by decide) ?_
          refine wp_goto (tgt := 98) dX7_takeStrip_94 (by decide) ?_
          have hv := hs.1
          have hs := hs.2
          refine wp_iast rfl (by decide) hv dX7_takeStrip_98 (fun M11 eM11 => ?_)
          have hs := hs M11 eM11
          obtain ⟨y12, ey12⟩ : ∃ y : Int32, y = x2 + (nI 1) := ⟨_, rfl⟩
          have hs := hs y12 ey12
          refine wp_iinc (v := y12) (ls' := [(0, .ref 0), (2, .int y12)]) 1 [1, 0] dX7_takeStrip_99 rfl (by rw [ey12]; rfl) rfl (by decide) ?_
          refine wp_goto (tgt := 36) dX7_takeStrip_102 (by decide) ?_
          refine wp_sub (ls' := [(0, .ref 0), (2, .int y12)]) [0, 1] rfl ?_
          exact ih _ _ hs
      · have hs := hs.2 c7
        refine wp_aload_n 0 dX7_takeStrip_50 rfl ?_
        refine wp_get (v := .ref 1) dX7_takeStrip_51 rfl (by decide) rfl in_X7_takeStrip_X7 0 (by decide) fl_X7_takeStrip_7 rfl rfl ?_
        refine wp_iconst (v := (nI 1)) dX7_takeStrip_54 (by decide) ?_
        refine wp_iload_n 1 dX7_takeStrip_55 rfl ?_
        refine wp_iconst (v := (nI 2)) dX7_takeStrip_56 (by decide) ?_
        refine wp_idiv dX7_takeStrip_57 (by decide) ?_
        refine wp_iadd dX7_takeStrip_58 ?_
        refine wp_aload_n 0 dX7_takeStrip_59 rfl ?_
        refine wp_get (v := .ref 4) dX7_takeStrip_60 rfl (by decide) rfl in_X7_takeStrip_X7 5 (by decide) fl_X7_takeStrip_19 rfl rfl ?_
        refine wp_iload_n 1 dX7_takeStrip_63 rfl ?_
        have hv := hs.1
        have hs := hs.2
        refine wp_iald rfl (by decide) hv dX7_takeStrip_64 ?_
        refine wp_bipush (v := (nI 48)) dX7_takeStrip_65 (by decide) ?_
        refine wp_isub dX7_takeStrip_67 ?_
        have hv := hs.1
        have hs := hs.2
        refine wp_iast rfl (by decide) hv dX7_takeStrip_68 (fun M13 eM13 => ?_)
        have hs := hs M13 eM13
        refine wp_goto (tgt := 99) dX7_takeStrip_69 (by decide) ?_
        obtain ⟨y14, ey14⟩ : ∃ y : Int32, y = x2 + (nI 1) := ⟨_, rfl⟩
        have hs := hs y14 ey14
        refine wp_iinc (v := y14) (ls' := [(0, .ref 0), (2, .int y14)]) 1 [1, 0] dX7_takeStrip_99 rfl (by rw [ey14]; rfl) rfl (by decide) ?_
        refine wp_goto (tgt := 36) dX7_takeStrip_102 (by decide) ?_
        refine wp_sub (ls' := [(0, .ref 0), (2, .int y14)]) [0, 1] rfl ?_
        exact ih _ _ hs
def w_X7_takeStrip (M : Nat → Nat → Int32) (Q : Int32 → (Nat → Nat → Int32) → Prop) : Prop := w_X7_fault M (fun v2 M1 => ((v2 = (-1005 : Int32) → w_X7_know M1 (fun M4 => ∀ M5 : Nat → Nat → Int32, M5 = um M4 1 (upd (M4 1) 0 ((M4 0 6) / (nI 2))) → w_X7_takeStrip_36 FU (nI 0) M5 (fun y15 M16 => ∀ M17 : Nat → Nat → Int32, M17 = um M16 1 (upd (M16 1) 16 (nI 0)) → ∀ M18 : Nat → Nat → Int32, M18 = um M17 1 (upd (M17 1) 17 (nI 0)) → Q (M18 1 0) M18))) ∧ (¬ v2 = (-1005 : Int32) → Q ((-1100 : Int32) - v2) M1)))
set_option maxHeartbeats 4000000 in
set_option maxRecDepth 100000 in
theorem mw_X7_takeStrip {E : EN} {M : Nat → Nat → Int32} {Q : Int32 → (Nat → Nat → Int32) → Prop} (hs : w_X7_takeStrip M Q) : MW E iX7_takeStrip 3 0 0 false [.ref 0] σM 10 M (qI σM 10 Q) := by
  refine mw_intro (ls := [(0, .ref 0)]) rfl (by decide +kernel) rfl rfl (Nat.le_of_ble_eq_true rfl) ?_
  have hQ : ∀ x M, Q x M → (qI σM 10 Q) (some (.int x)) σM 10 M := fun _ _ h => ⟨_, rfl, rfl, rfl, h⟩
  generalize (qI σM 10 Q) = Qf at hQ ⊢
  unfold w_X7_takeStrip at hs
  refine wp_aload_n 0 dX7_takeStrip_0 rfl ?_
  refine wp_cVi (As := []) (st := []) (mw_X7_fault  hs) gX7_takeStrip_X7_fault rfl hy_X7_fault rfl rfl (by decide) rfl (by decide) (by decide) (Nat.le_of_ble_eq_true rfl) rfl dX7_takeStrip_1 (fun v2 M1 hs => ?_)
  refine wp_istore_n (ls' := [(0, .ref 0), (1, .int v2)]) [1, 0] dX7_takeStrip_4 rfl (by decide) ?_
  refine wp_iload_n 1 dX7_takeStrip_5 rfl ?_
  refine wp_sipush (v := (-1005 : Int32)) dX7_takeStrip_6 (by decide) ?_
  refine wp_icmp_eq (tgt := 18) dX7_takeStrip_9 (by decide) (fun c3 => ?_) (fun c3 => ?_)
  · have hs := hs.1 c3
    refine wp_aload_n 0 dX7_takeStrip_18 rfl ?_
    refine wp_cVv (As := []) (st := []) (mw_X7_know  hs) gX7_takeStrip_X7_know rfl hy_X7_know rfl rfl (by decide) rfl (by decide) (by decide) (Nat.le_of_ble_eq_true rfl) rfl dX7_takeStrip_19 (fun  M4 hs => ?_)
    refine wp_aload_n 0 dX7_takeStrip_22 rfl ?_
    refine wp_get (v := .ref 1) dX7_takeStrip_23 rfl (by decide) rfl in_X7_takeStrip_X7 0 (by decide) fl_X7_takeStrip_7 rfl rfl ?_
    refine wp_iconst (v := (nI 0)) dX7_takeStrip_26 (by decide) ?_
    refine wp_aload_n 0 dX7_takeStrip_27 rfl ?_
    refine wp_get (v := .int (M4 0 6)) dX7_takeStrip_28 rfl (by decide) rfl in_X7_takeStrip_X7 6 (by decide) fl_X7_takeStrip_119 rfl rfl ?_
    refine wp_iconst (v := (nI 2)) dX7_takeStrip_31 (by decide) ?_
    refine wp_idiv dX7_takeStrip_32 (by decide) ?_
    refine wp_iast rfl (by decide) (vil rfl) dX7_takeStrip_33 (fun M5 eM5 => ?_)
    have hs := hs M5 eM5
    refine wp_iconst (v := (nI 0)) dX7_takeStrip_34 (by decide) ?_
    refine wp_istore_n (ls' := [(0, .ref 0), (1, .int v2), (2, .int (nI 0))]) [1, 2, 0] dX7_takeStrip_35 rfl (by decide) ?_
    refine wp_sub (ls' := [(0, .ref 0), (2, .int (nI 0))]) [0, 2] rfl ?_
    refine lp_X7_takeStrip_36 (K := fun y15 M16 => ∀ M17 : Nat → Nat → Int32, M17 = um M16 1 (upd (M16 1) 16 (nI 0)) → ∀ M18 : Nat → Nat → Int32, M18 = um M17 1 (upd (M17 1) 17 (nI 0)) → Q (M18 1 0) M18) (fun y15 M16 hs => ?_) FU _ _ hs
    refine wp_aload_n 0 dX7_takeStrip_105 rfl ?_
    refine wp_get (v := .ref 1) dX7_takeStrip_106 rfl (by decide) rfl in_X7_takeStrip_X7 0 (by decide) fl_X7_takeStrip_7 rfl rfl ?_
    refine wp_bipush (v := (nI 16)) dX7_takeStrip_109 (by decide) ?_
    refine wp_iconst (v := (nI 0)) dX7_takeStrip_111 (by decide) ?_
    refine wp_iast rfl (by decide) (vil rfl) dX7_takeStrip_112 (fun M17 eM17 => ?_)
    have hs := hs M17 eM17
    refine wp_aload_n 0 dX7_takeStrip_113 rfl ?_
    refine wp_get (v := .ref 1) dX7_takeStrip_114 rfl (by decide) rfl in_X7_takeStrip_X7 0 (by decide) fl_X7_takeStrip_7 rfl rfl ?_
    refine wp_bipush (v := (nI 17)) dX7_takeStrip_117 (by decide) ?_
    refine wp_iconst (v := (nI 0)) dX7_takeStrip_119 (by decide) ?_
    refine wp_iast rfl (by decide) (vil rfl) dX7_takeStrip_120 (fun M18 eM18 => ?_)
    have hs := hs M18 eM18
    refine wp_aload_n 0 dX7_takeStrip_121 rfl ?_
    refine wp_get (v := .ref 1) dX7_takeStrip_122 rfl (by decide) rfl in_X7_takeStrip_X7 0 (by decide) fl_X7_takeStrip_7 rfl rfl ?_
    refine wp_iconst (v := (nI 0)) dX7_takeStrip_125 (by decide) ?_
    refine wp_iald rfl (by decide) (vil rfl) dX7_takeStrip_126 ?_
    exact wp_ireturn rfl rfl dX7_takeStrip_127 (hQ _ _ hs)
  · have hs := hs.2 c3
    refine wp_sipush (v := (-1100 : Int32)) dX7_takeStrip_12 (by decide) ?_
    refine wp_iload_n 1 dX7_takeStrip_15 rfl ?_
    refine wp_isub dX7_takeStrip_16 ?_
    exact wp_ireturn rfl rfl dX7_takeStrip_17 (hQ _ _ hs)
abbrev iX7_undo : MI := (cX7_undo, 2, some .int, RX7, yX7_undo, wsX7_undo)
theorem hy_X7_undo : yX7_undo.cls = RX7 ∧ yX7_undo.cls ≠ "java/lang/invoke/MethodHandle" ∧ yX7_undo.cls ≠ "java/lang/invoke/VarHandle" ∧ (parseMethodDescriptor yX7_undo.desc).map (fun d => d.parameters.length) = some 0 := by decide +kernel
theorem in_X7_undo_X7 : ∀ w ∈ u_ws RX7 TX7 13, w ∈ wsX7_undo := by decide +kernel
theorem fl_X7_undo_7 : Cond.fieldLink RX7 7 (TX7 0).1 (TX7 0).2.1 (TX7 0).2.2.1 ∈ wsX7_undo := by decide +kernel
theorem fl_X7_undo_13 : Cond.fieldLink RX7 13 (TX7 1).1 (TX7 1).2.1 (TX7 1).2.2.1 ∈ wsX7_undo := by decide +kernel
theorem fl_X7_undo_41 : Cond.fieldLink RX7 41 (TX7 2).1 (TX7 2).2.1 (TX7 2).2.2.1 ∈ wsX7_undo := by decide +kernel
def w_X7_undo_23 : Nat → Int32 → (Nat → Nat → Int32) → (Int32 → (Nat → Nat → Int32) → Prop) → Prop
  | 0, _, _, _ => False
  | n + 1, x1, M, K => (((nI 23) ≤ x1 → K x1 M) ∧ (¬ (nI 23) ≤ x1 → (vp_in (((nI 23) * (M 0 2)) + x1) 92 ∧ (vp_in x1 23 ∧ ∀ M4 : Nat → Nat → Int32, M4 = um M 1 (upd (M 1) x1.toNatClampNeg (M 2 (((nI 23) * (M 0 2)) + x1).toNatClampNeg)) → ∀ y5 : Int32, y5 = x1 + (nI 1) → w_X7_undo_23 n y5 M4 K))))
set_option maxHeartbeats 4000000 in
set_option maxRecDepth 100000 in
theorem lp_X7_undo_23 {E : EN} {Qf : PST} {K : Int32 → (Nat → Nat → Int32) → Prop} (hK : ∀ (z1 : Int32) (M : Nat → Nat → Int32), K z1 M → WP E iX7_undo 1 0 0 false 55 [(0, .ref 0)] [] σM 10 M Qf) : ∀ (nn : Nat) (x1 : Int32) (M : Nat → Nat → Int32), w_X7_undo_23 nn x1 M K → WP E iX7_undo 1 0 0 false 23 [(0, .ref 0), (1, .int x1)] [] σM 10 M Qf := by
  intro nn
  induction nn with
  | zero => intro x1 M hs; exact hs.elim
  | succ n ih =>
    intro x1 M hs
    unfold w_X7_undo_23 at hs
    refine wp_iload_n 1 dX7_undo_23 rfl ?_
    refine wp_bipush (v := (nI 23)) dX7_undo_24 (by decide) ?_
    refine wp_icmp_ge (tgt := 55) dX7_undo_26 (by decide) (fun c3 => ?_) (fun c3 => ?_)
    · have hs := hs.1 c3
      refine wp_sub (ls' := [(0, .ref 0)]) [0] rfl ?_
      exact hK _ _ hs
    · have hs := hs.2 c3
      refine wp_aload_n 0 dX7_undo_29 rfl ?_
      refine wp_get (v := .ref 1) dX7_undo_30 rfl (by decide) rfl in_X7_undo_X7 0 (by decide) fl_X7_undo_7 rfl rfl ?_
      refine wp_iload_n 1 dX7_undo_33 rfl ?_
      refine wp_aload_n 0 dX7_undo_34 rfl ?_
      refine wp_get (v := .ref 2) dX7_undo_35 rfl (by decide) rfl in_X7_undo_X7 1 (by decide) fl_X7_undo_13 rfl rfl ?_
      refine wp_bipush (v := (nI 23)) dX7_undo_38 (by decide) ?_
      refine wp_aload_n 0 dX7_undo_40 rfl ?_
      refine wp_get (v := .int (M 0 2)) dX7_undo_41 rfl (by decide) rfl in_X7_undo_X7 2 (by decide) fl_X7_undo_41 rfl rfl ?_
      refine wp_imul dX7_undo_44 ?_
      refine wp_iload_n 1 dX7_undo_45 rfl ?_
      refine wp_iadd dX7_undo_46 ?_
      have hv := hs.1
      have hs := hs.2
      refine wp_iald rfl (by decide) hv dX7_undo_47 ?_
      have hv := hs.1
      have hs := hs.2
      refine wp_iast rfl (by decide) hv dX7_undo_48 (fun M4 eM4 => ?_)
      have hs := hs M4 eM4
      obtain ⟨y5, ey5⟩ : ∃ y : Int32, y = x1 + (nI 1) := ⟨_, rfl⟩
      have hs := hs y5 ey5
      refine wp_iinc (v := y5) (ls' := [(0, .ref 0), (1, .int y5)]) 1 [1, 0] dX7_undo_49 rfl (by rw [ey5]; rfl) rfl (by decide) ?_
      refine wp_goto (tgt := 23) dX7_undo_52 (by decide) ?_
      refine wp_sub (ls' := [(0, .ref 0), (1, .int y5)]) [0, 1] rfl ?_
      exact ih _ _ hs
def w_X7_undo (M : Nat → Nat → Int32) (Q : Int32 → (Nat → Nat → Int32) → Prop) : Prop := ((¬ (M 0 2) = 0 → ∀ M2 : Nat → Nat → Int32, M2 = um M 0 (upd (M 0) 2 ((M 0 2) - (nI 1))) → w_X7_undo_23 FU (nI 0) M2 (fun y6 M7 => Q (M7 0 2) M7)) ∧ ((M 0 2) = 0 → Q (-1005 : Int32) M))
set_option maxHeartbeats 4000000 in
set_option maxRecDepth 100000 in
theorem mw_X7_undo {E : EN} {M : Nat → Nat → Int32} {Q : Int32 → (Nat → Nat → Int32) → Prop} (hs : w_X7_undo M Q) : MW E iX7_undo 1 0 0 false [.ref 0] σM 10 M (qI σM 10 Q) := by
  refine mw_intro (ls := [(0, .ref 0)]) rfl (by decide +kernel) rfl rfl (Nat.le_of_ble_eq_true rfl) ?_
  have hQ : ∀ x M, Q x M → (qI σM 10 Q) (some (.int x)) σM 10 M := fun _ _ h => ⟨_, rfl, rfl, rfl, h⟩
  generalize (qI σM 10 Q) = Qf at hQ ⊢
  unfold w_X7_undo at hs
  refine wp_aload_n 0 dX7_undo_0 rfl ?_
  refine wp_get (v := .int (M 0 2)) dX7_undo_1 rfl (by decide) rfl in_X7_undo_X7 2 (by decide) fl_X7_undo_41 rfl rfl ?_
  refine wp_if_ne (tgt := 11) dX7_undo_4 (by decide) (fun c1 => ?_) (fun c1 => ?_)
  · have hs := hs.1 c1
    refine wp_aload_n 0 dX7_undo_11 rfl ?_
    refine wp_dup rfl dX7_undo_12 ?_
    refine wp_get (v := .int (M 0 2)) dX7_undo_13 rfl (by decide) rfl in_X7_undo_X7 2 (by decide) fl_X7_undo_41 rfl rfl ?_
    refine wp_iconst (v := (nI 1)) dX7_undo_16 (by decide) ?_
    refine wp_isub dX7_undo_17 ?_
    refine wp_put (ty := .int) tyX7 tyX7_ok nmX7 rfl (by decide) rfl in_X7_undo_X7 2 (by decide) fl_X7_undo_41 rfl rfl (by decide +kernel) rfl rfl dX7_undo_18 (fun M2 eM2 => ?_)
    have hs := hs M2 eM2
    refine wp_iconst (v := (nI 0)) dX7_undo_21 (by decide) ?_
    refine wp_istore_n (ls' := [(0, .ref 0), (1, .int (nI 0))]) [1, 0] dX7_undo_22 rfl (by decide) ?_
    refine wp_sub (ls' := [(0, .ref 0), (1, .int (nI 0))]) [0, 1] rfl ?_
    refine lp_X7_undo_23 (K := fun y6 M7 => Q (M7 0 2) M7) (fun y6 M7 hs => ?_) FU _ _ hs
    refine wp_aload_n 0 dX7_undo_55 rfl ?_
    refine wp_get (v := .int (M7 0 2)) dX7_undo_56 rfl (by decide) rfl in_X7_undo_X7 2 (by decide) fl_X7_undo_41 rfl rfl ?_
    exact wp_ireturn rfl rfl dX7_undo_59 (hQ _ _ hs)
  · have hs := hs.2 c1
    refine wp_sipush (v := (-1005 : Int32)) dX7_undo_7 (by decide) ?_
    exact wp_ireturn rfl rfl dX7_undo_10 (hQ _ _ hs)
abbrev iX7_keep : MI := (cX7_keep, 2, some .int, RX7, yX7_keep, wsX7_keep)
theorem hy_X7_keep : yX7_keep.cls = RX7 ∧ yX7_keep.cls ≠ "java/lang/invoke/MethodHandle" ∧ yX7_keep.cls ≠ "java/lang/invoke/VarHandle" ∧ (parseMethodDescriptor yX7_keep.desc).map (fun d => d.parameters.length) = some 0 := by decide +kernel
theorem in_X7_keep_X7 : ∀ w ∈ u_ws RX7 TX7 13, w ∈ wsX7_keep := by decide +kernel
theorem fl_X7_keep_7 : Cond.fieldLink RX7 7 (TX7 0).1 (TX7 0).2.1 (TX7 0).2.2.1 ∈ wsX7_keep := by decide +kernel
theorem fl_X7_keep_16 : Cond.fieldLink RX7 16 (TX7 3).1 (TX7 3).2.1 (TX7 3).2.2.1 ∈ wsX7_keep := by decide +kernel
theorem fl_X7_keep_125 : Cond.fieldLink RX7 125 (TX7 4).1 (TX7 4).2.1 (TX7 4).2.2.1 ∈ wsX7_keep := by decide +kernel
def w_X7_keep_2 : Nat → Int32 → (Nat → Nat → Int32) → (Int32 → (Nat → Nat → Int32) → Prop) → Prop
  | 0, _, _, _ => False
  | n + 1, x1, M, K => (((nI 23) ≤ x1 → K x1 M) ∧ (¬ (nI 23) ≤ x1 → (vp_in x1 23 ∧ (vp_in x1 23 ∧ ∀ M2 : Nat → Nat → Int32, M2 = um M 3 (upd (M 3) x1.toNatClampNeg (M 1 x1.toNatClampNeg)) → ∀ y3 : Int32, y3 = x1 + (nI 1) → w_X7_keep_2 n y3 M2 K))))
set_option maxHeartbeats 4000000 in
set_option maxRecDepth 100000 in
theorem lp_X7_keep_2 {E : EN} {Qf : PST} {K : Int32 → (Nat → Nat → Int32) → Prop} (hK : ∀ (z1 : Int32) (M : Nat → Nat → Int32), K z1 M → WP E iX7_keep 2 0 0 false 26 [(0, .ref 0)] [] σM 10 M Qf) : ∀ (nn : Nat) (x1 : Int32) (M : Nat → Nat → Int32), w_X7_keep_2 nn x1 M K → WP E iX7_keep 2 0 0 false 2 [(0, .ref 0), (1, .int x1)] [] σM 10 M Qf := by
  intro nn
  induction nn with
  | zero => intro x1 M hs; exact hs.elim
  | succ n ih =>
    intro x1 M hs
    unfold w_X7_keep_2 at hs
    refine wp_iload_n 1 dX7_keep_2 rfl ?_
    refine wp_bipush (v := (nI 23)) dX7_keep_3 (by decide) ?_
    refine wp_icmp_ge (tgt := 26) dX7_keep_5 (by decide) (fun c1 => ?_) (fun c1 => ?_)
    · have hs := hs.1 c1
      refine wp_sub (ls' := [(0, .ref 0)]) [0] rfl ?_
      exact hK _ _ hs
    · have hs := hs.2 c1
      refine wp_aload_n 0 dX7_keep_8 rfl ?_
      refine wp_get (v := .ref 3) dX7_keep_9 rfl (by decide) rfl in_X7_keep_X7 3 (by decide) fl_X7_keep_16 rfl rfl ?_
      refine wp_iload_n 1 dX7_keep_12 rfl ?_
      refine wp_aload_n 0 dX7_keep_13 rfl ?_
      refine wp_get (v := .ref 1) dX7_keep_14 rfl (by decide) rfl in_X7_keep_X7 0 (by decide) fl_X7_keep_7 rfl rfl ?_
      refine wp_iload_n 1 dX7_keep_17 rfl ?_
      have hv := hs.1
      have hs := hs.2
      refine wp_iald rfl (by decide) hv dX7_keep_18 ?_
      have hv := hs.1
      have hs := hs.2
      refine wp_iast rfl (by decide) hv dX7_keep_19 (fun M2 eM2 => ?_)
      have hs := hs M2 eM2
      obtain ⟨y3, ey3⟩ : ∃ y : Int32, y = x1 + (nI 1) := ⟨_, rfl⟩
      have hs := hs y3 ey3
      refine wp_iinc (v := y3) (ls' := [(0, .ref 0), (1, .int y3)]) 1 [1, 0] dX7_keep_20 rfl (by rw [ey3]; rfl) rfl (by decide) ?_
      refine wp_goto (tgt := 2) dX7_keep_23 (by decide) ?_
      refine wp_sub (ls' := [(0, .ref 0), (1, .int y3)]) [0, 1] rfl ?_
      exact ih _ _ hs
def w_X7_keep (M : Nat → Nat → Int32) (Q : Int32 → (Nat → Nat → Int32) → Prop) : Prop := w_X7_keep_2 FU (nI 0) M (fun y4 M5 => ∀ M6 : Nat → Nat → Int32, M6 = um M5 0 (upd (M5 0) 4 (nI 1)) → w_X7_many (M6 1 16) M6 (fun v8 M7 => Q v8 M7))
set_option maxHeartbeats 4000000 in
set_option maxRecDepth 100000 in
theorem mw_X7_keep {E : EN} {M : Nat → Nat → Int32} {Q : Int32 → (Nat → Nat → Int32) → Prop} (hs : w_X7_keep M Q) : MW E iX7_keep 2 0 0 false [.ref 0] σM 10 M (qI σM 10 Q) := by
  refine mw_intro (ls := [(0, .ref 0)]) rfl (by decide +kernel) rfl rfl (Nat.le_of_ble_eq_true rfl) ?_
  have hQ : ∀ x M, Q x M → (qI σM 10 Q) (some (.int x)) σM 10 M := fun _ _ h => ⟨_, rfl, rfl, rfl, h⟩
  generalize (qI σM 10 Q) = Qf at hQ ⊢
  unfold w_X7_keep at hs
  refine wp_iconst (v := (nI 0)) dX7_keep_0 (by decide) ?_
  refine wp_istore_n (ls' := [(0, .ref 0), (1, .int (nI 0))]) [1, 0] dX7_keep_1 rfl (by decide) ?_
  refine wp_sub (ls' := [(0, .ref 0), (1, .int (nI 0))]) [0, 1] rfl ?_
  refine lp_X7_keep_2 (K := fun y4 M5 => ∀ M6 : Nat → Nat → Int32, M6 = um M5 0 (upd (M5 0) 4 (nI 1)) → w_X7_many (M6 1 16) M6 (fun v8 M7 => Q v8 M7)) (fun y4 M5 hs => ?_) FU _ _ hs
  refine wp_aload_n 0 dX7_keep_26 rfl ?_
  refine wp_iconst (v := (nI 1)) dX7_keep_27 (by decide) ?_
  refine wp_put (ty := .boolean) tyX7 tyX7_ok nmX7 rfl (by decide) rfl in_X7_keep_X7 4 (by decide) fl_X7_keep_125 rfl rfl (by decide +kernel) rfl rfl dX7_keep_28 (fun M6 eM6 => ?_)
  have hs := hs M6 eM6
  refine wp_aload_n 0 dX7_keep_31 rfl ?_
  refine wp_get (v := .ref 1) dX7_keep_32 rfl (by decide) rfl in_X7_keep_X7 0 (by decide) fl_X7_keep_7 rfl rfl ?_
  refine wp_bipush (v := (nI 16)) dX7_keep_35 (by decide) ?_
  refine wp_iald rfl (by decide) (vil rfl) dX7_keep_37 ?_
  refine wp_cSi (As := [.int (M6 1 16)]) (st := []) (mw_X7_many  hs) gX7_keep_X7_many rfl hy_X7_many rfl (by decide) (by decide) (Nat.le_of_ble_eq_true rfl) rfl dX7_keep_38 (fun v8 M7 hs => ?_)
  exact wp_ireturn rfl rfl dX7_keep_41 (hQ _ _ hs)
abbrev iX7_restore : MI := (cX7_restore, 2, some .int, RX7, yX7_restore, wsX7_restore)
theorem hy_X7_restore : yX7_restore.cls = RX7 ∧ yX7_restore.cls ≠ "java/lang/invoke/MethodHandle" ∧ yX7_restore.cls ≠ "java/lang/invoke/VarHandle" ∧ (parseMethodDescriptor yX7_restore.desc).map (fun d => d.parameters.length) = some 0 := by decide +kernel
theorem in_X7_restore_X7 : ∀ w ∈ u_ws RX7 TX7 13, w ∈ wsX7_restore := by decide +kernel
theorem fl_X7_restore_7 : Cond.fieldLink RX7 7 (TX7 0).1 (TX7 0).2.1 (TX7 0).2.2.1 ∈ wsX7_restore := by decide +kernel
theorem fl_X7_restore_16 : Cond.fieldLink RX7 16 (TX7 3).1 (TX7 3).2.1 (TX7 3).2.2.1 ∈ wsX7_restore := by decide +kernel
theorem fl_X7_restore_125 : Cond.fieldLink RX7 125 (TX7 4).1 (TX7 4).2.1 (TX7 4).2.2.1 ∈ wsX7_restore := by decide +kernel
def w_X7_restore_17 : Nat → Int32 → (Nat → Nat → Int32) → (Int32 → (Nat → Nat → Int32) → Prop) → Prop
  | 0, _, _, _ => False
  | n + 1, x1, M, K => (((nI 23) ≤ x1 → K x1 M) ∧ (¬ (nI 23) ≤ x1 → (vp_in x1 23 ∧ (vp_in x1 23 ∧ ∀ M4 : Nat → Nat → Int32, M4 = um M 1 (upd (M 1) x1.toNatClampNeg (M 3 x1.toNatClampNeg)) → ∀ y5 : Int32, y5 = x1 + (nI 1) → w_X7_restore_17 n y5 M4 K))))
set_option maxHeartbeats 4000000 in
set_option maxRecDepth 100000 in
theorem lp_X7_restore_17 {E : EN} {Qf : PST} {K : Int32 → (Nat → Nat → Int32) → Prop} (hK : ∀ (z1 : Int32) (M : Nat → Nat → Int32), K z1 M → WP E iX7_restore 2 0 0 false 41 [(0, .ref 0)] [] σM 10 M Qf) : ∀ (nn : Nat) (x1 : Int32) (M : Nat → Nat → Int32), w_X7_restore_17 nn x1 M K → WP E iX7_restore 2 0 0 false 17 [(0, .ref 0), (1, .int x1)] [] σM 10 M Qf := by
  intro nn
  induction nn with
  | zero => intro x1 M hs; exact hs.elim
  | succ n ih =>
    intro x1 M hs
    unfold w_X7_restore_17 at hs
    refine wp_iload_n 1 dX7_restore_17 rfl ?_
    refine wp_bipush (v := (nI 23)) dX7_restore_18 (by decide) ?_
    refine wp_icmp_ge (tgt := 41) dX7_restore_20 (by decide) (fun c3 => ?_) (fun c3 => ?_)
    · have hs := hs.1 c3
      refine wp_sub (ls' := [(0, .ref 0)]) [0] rfl ?_
      exact hK _ _ hs
    · have hs := hs.2 c3
      refine wp_aload_n 0 dX7_restore_23 rfl ?_
      refine wp_get (v := .ref 1) dX7_restore_24 rfl (by decide) rfl in_X7_restore_X7 0 (by decide) fl_X7_restore_7 rfl rfl ?_
      refine wp_iload_n 1 dX7_restore_27 rfl ?_
      refine wp_aload_n 0 dX7_restore_28 rfl ?_
      refine wp_get (v := .ref 3) dX7_restore_29 rfl (by decide) rfl in_X7_restore_X7 3 (by decide) fl_X7_restore_16 rfl rfl ?_
      refine wp_iload_n 1 dX7_restore_32 rfl ?_
      have hv := hs.1
      have hs := hs.2
      refine wp_iald rfl (by decide) hv dX7_restore_33 ?_
      have hv := hs.1
      have hs := hs.2
      refine wp_iast rfl (by decide) hv dX7_restore_34 (fun M4 eM4 => ?_)
      have hs := hs M4 eM4
      obtain ⟨y5, ey5⟩ : ∃ y : Int32, y = x1 + (nI 1) := ⟨_, rfl⟩
      have hs := hs y5 ey5
      refine wp_iinc (v := y5) (ls' := [(0, .ref 0), (1, .int y5)]) 1 [1, 0] dX7_restore_35 rfl (by rw [ey5]; rfl) rfl (by decide) ?_
      refine wp_goto (tgt := 17) dX7_restore_38 (by decide) ?_
      refine wp_sub (ls' := [(0, .ref 0), (1, .int y5)]) [0, 1] rfl ?_
      exact ih _ _ hs
def w_X7_restore (M : Nat → Nat → Int32) (Q : Int32 → (Nat → Nat → Int32) → Prop) : Prop := ((¬ (M 0 4) = 0 → w_X7_know M (fun M2 => w_X7_restore_17 FU (nI 0) M2 (fun y6 M7 => w_X7_many (M7 1 16) M7 (fun v9 M8 => Q v9 M8)))) ∧ ((M 0 4) = 0 → Q (-1005 : Int32) M))
set_option maxHeartbeats 4000000 in
set_option maxRecDepth 100000 in
theorem mw_X7_restore {E : EN} {M : Nat → Nat → Int32} {Q : Int32 → (Nat → Nat → Int32) → Prop} (hs : w_X7_restore M Q) : MW E iX7_restore 2 0 0 false [.ref 0] σM 10 M (qI σM 10 Q) := by
  refine mw_intro (ls := [(0, .ref 0)]) rfl (by decide +kernel) rfl rfl (Nat.le_of_ble_eq_true rfl) ?_
  have hQ : ∀ x M, Q x M → (qI σM 10 Q) (some (.int x)) σM 10 M := fun _ _ h => ⟨_, rfl, rfl, rfl, h⟩
  generalize (qI σM 10 Q) = Qf at hQ ⊢
  unfold w_X7_restore at hs
  refine wp_aload_n 0 dX7_restore_0 rfl ?_
  refine wp_get (v := .int (M 0 4)) dX7_restore_1 rfl (by decide) rfl in_X7_restore_X7 4 (by decide) fl_X7_restore_125 rfl rfl ?_
  refine wp_if_ne (tgt := 11) dX7_restore_4 (by decide) (fun c1 => ?_) (fun c1 => ?_)
  · have hs := hs.1 c1
    refine wp_aload_n 0 dX7_restore_11 rfl ?_
    refine wp_cVv (As := []) (st := []) (mw_X7_know  hs) gX7_restore_X7_know rfl hy_X7_know rfl rfl (by decide) rfl (by decide) (by decide) (Nat.le_of_ble_eq_true rfl) rfl dX7_restore_12 (fun  M2 hs => ?_)
    refine wp_iconst (v := (nI 0)) dX7_restore_15 (by decide) ?_
    refine wp_istore_n (ls' := [(0, .ref 0), (1, .int (nI 0))]) [1, 0] dX7_restore_16 rfl (by decide) ?_
    refine wp_sub (ls' := [(0, .ref 0), (1, .int (nI 0))]) [0, 1] rfl ?_
    refine lp_X7_restore_17 (K := fun y6 M7 => w_X7_many (M7 1 16) M7 (fun v9 M8 => Q v9 M8)) (fun y6 M7 hs => ?_) FU _ _ hs
    refine wp_aload_n 0 dX7_restore_41 rfl ?_
    refine wp_get (v := .ref 1) dX7_restore_42 rfl (by decide) rfl in_X7_restore_X7 0 (by decide) fl_X7_restore_7 rfl rfl ?_
    refine wp_bipush (v := (nI 16)) dX7_restore_45 (by decide) ?_
    refine wp_iald rfl (by decide) (vil rfl) dX7_restore_47 ?_
    refine wp_cSi (As := [.int (M7 1 16)]) (st := []) (mw_X7_many  hs) gX7_restore_X7_many rfl hy_X7_many rfl (by decide) (by decide) (Nat.le_of_ble_eq_true rfl) rfl dX7_restore_48 (fun v9 M8 hs => ?_)
    exact wp_ireturn rfl rfl dX7_restore_51 (hQ _ _ hs)
  · have hs := hs.2 c1
    refine wp_sipush (v := (-1005 : Int32)) dX7_restore_7 (by decide) ?_
    exact wp_ireturn rfl rfl dX7_restore_10 (hQ _ _ hs)
abbrev iX7_degrees : MI := (cX7_degrees, 3, some .int, RX7, yX7_degrees, wsX7_degrees)
theorem hy_X7_degrees : yX7_degrees.cls = RX7 ∧ yX7_degrees.cls ≠ "java/lang/invoke/MethodHandle" ∧ yX7_degrees.cls ≠ "java/lang/invoke/VarHandle" ∧ (parseMethodDescriptor yX7_degrees.desc).map (fun d => d.parameters.length) = some 1 := by decide +kernel
theorem in_X7_degrees_X7 : ∀ w ∈ u_ws RX7 TX7 13, w ∈ wsX7_degrees := by decide +kernel
theorem fl_X7_degrees_7 : Cond.fieldLink RX7 7 (TX7 0).1 (TX7 0).2.1 (TX7 0).2.2.1 ∈ wsX7_degrees := by decide +kernel
def w_X7_degrees (a : Int32) (M : Nat → Nat → Int32) (Q : Int32 → (Nat → Nat → Int32) → Prop) : Prop := (vp_in (((nI 1) + a) + (nI 1)) 23 ∧ ∀ y1 : Int32, y1 = (((M 1 21) - (M 1 (((nI 1) + a) + (nI 1)).toNatClampNeg)) + (nI 1)) → ((y1 ≤ 0 → Q ((nI 90) + (nI 0)) M) ∧ (¬ y1 ≤ 0 → Q ((nI 90) + y1) M)))
set_option maxHeartbeats 4000000 in
set_option maxRecDepth 100000 in
theorem mw_X7_degrees {E : EN} {a : Int32} {M : Nat → Nat → Int32} {Q : Int32 → (Nat → Nat → Int32) → Prop} (hs : w_X7_degrees a M Q) : MW E iX7_degrees 1 0 0 false [.ref 0, .int a] σM 10 M (qI σM 10 Q) := by
  refine mw_intro (ls := [(0, .ref 0), (1, .int a)]) rfl (by decide +kernel) rfl rfl (Nat.le_of_ble_eq_true rfl) ?_
  have hQ : ∀ x M, Q x M → (qI σM 10 Q) (some (.int x)) σM 10 M := fun _ _ h => ⟨_, rfl, rfl, rfl, h⟩
  generalize (qI σM 10 Q) = Qf at hQ ⊢
  unfold w_X7_degrees at hs
  refine wp_aload_n 0 dX7_degrees_0 rfl ?_
  refine wp_get (v := .ref 1) dX7_degrees_1 rfl (by decide) rfl in_X7_degrees_X7 0 (by decide) fl_X7_degrees_7 rfl rfl ?_
  refine wp_bipush (v := (nI 21)) dX7_degrees_4 (by decide) ?_
  refine wp_iald rfl (by decide) (vil rfl) dX7_degrees_6 ?_
  refine wp_aload_n 0 dX7_degrees_7 rfl ?_
  refine wp_get (v := .ref 1) dX7_degrees_8 rfl (by decide) rfl in_X7_degrees_X7 0 (by decide) fl_X7_degrees_7 rfl rfl ?_
  refine wp_iconst (v := (nI 1)) dX7_degrees_11 (by decide) ?_
  refine wp_iload_n 1 dX7_degrees_12 rfl ?_
  refine wp_iadd dX7_degrees_13 ?_
  refine wp_iconst (v := (nI 1)) dX7_degrees_14 (by decide) ?_
  refine wp_iadd dX7_degrees_15 ?_
  have hv := hs.1
  have hs := hs.2
  refine wp_iald rfl (by decide) hv dX7_degrees_16 ?_
  refine wp_isub dX7_degrees_17 ?_
  refine wp_iconst (v := (nI 1)) dX7_degrees_18 (by decide) ?_
  refine wp_iadd dX7_degrees_19 ?_
  refine wp_topi (fun y1 ey1 => ?_)
  have hs := hs y1 ey1
  refine wp_istore_n (ls' := [(0, .ref 0), (1, .int a), (2, .int y1)]) [1, 2, 0] dX7_degrees_20 rfl (by decide) ?_
  refine wp_bipush (v := (nI 90)) dX7_degrees_21 (by decide) ?_
  refine wp_iload_n 2 dX7_degrees_23 rfl ?_
  refine wp_if_le (tgt := 31) dX7_degrees_24 (by decide) (fun c2 => ?_) (fun c2 => ?_)
  · have hs := hs.1 c2
    refine wp_iconst (v := (nI 0)) dX7_degrees_31 (by decide) ?_
    refine wp_iadd dX7_degrees_32 ?_
    exact wp_ireturn rfl rfl dX7_degrees_33 (hQ _ _ hs)
  · have hs := hs.2 c2
    refine wp_iload_n 2 dX7_degrees_27 rfl ?_
    refine wp_goto (tgt := 32) dX7_degrees_28 (by decide) ?_
    refine wp_iadd dX7_degrees_32 ?_
    exact wp_ireturn rfl rfl dX7_degrees_33 (hQ _ _ hs)
abbrev iX7_ofBend : MI := (cX7_ofBend, 3, some .int, RX7, yX7_ofBend, wsX7_ofBend)
theorem hy_X7_ofBend : yX7_ofBend.cls = RX7 ∧ yX7_ofBend.cls ≠ "java/lang/invoke/MethodHandle" ∧ yX7_ofBend.cls ≠ "java/lang/invoke/VarHandle" ∧ (parseMethodDescriptor yX7_ofBend.desc).map (fun d => d.parameters.length) = some 2 := by decide +kernel
theorem in_X7_ofBend_X7 : ∀ w ∈ u_ws RX7 TX7 13, w ∈ wsX7_ofBend := by decide +kernel
theorem fl_X7_ofBend_7 : Cond.fieldLink RX7 7 (TX7 0).1 (TX7 0).2.1 (TX7 0).2.2.1 ∈ wsX7_ofBend := by decide +kernel
def w_X7_ofBend (a : Int32) (b : Int32) (M : Nat → Nat → Int32) (Q : Int32 → (Nat → Nat → Int32) → Prop) : Prop := w_X7_isBend a M (fun v2 M1 => ((¬ v2 = 0 → ((b = nI 0 → (vp_in ((nI 9) + a) 23 ∧ Q (M1 1 ((nI 9) + a).toNatClampNeg) M1)) ∧ (¬ b = nI 0 → ((b = nI 1 → w_X7_has (M1 1 16) a M1 (fun v7 M6 => ((v7 = 0 → Q (nI 0) M6) ∧ (¬ v7 = 0 → Q (nI 1) M6)))) ∧ (¬ b = nI 1 → ((b = nI 2 → w_X7_reason a (M1 1 16) (M1 1 17) M1 (fun v11 M10 => Q v11 M10)) ∧ (¬ b = nI 2 → ((b = nI 3 → w_X7_degrees a M1 (fun v14 M13 => Q v14 M13)) ∧ (¬ b = nI 3 → ((b = nI 4 → w_X7_reason a (M1 1 16) ((nI 1) - (M1 1 17)) M1 (fun v17 M16 => Q v17 M16)) ∧ (¬ b = nI 4 → Q (-1002 : Int32) M1))))))))))) ∧ (v2 = 0 → Q (-1001 : Int32) M1)))
set_option maxHeartbeats 4000000 in
set_option maxRecDepth 100000 in
theorem mw_X7_ofBend {E : EN} {a : Int32} {b : Int32} {M : Nat → Nat → Int32} {Q : Int32 → (Nat → Nat → Int32) → Prop} (hs : w_X7_ofBend a b M Q) : MW E iX7_ofBend 6 0 0 false [.ref 0, .int a, .int b] σM 10 M (qI σM 10 Q) := by
  refine mw_intro (ls := [(0, .ref 0), (1, .int a), (2, .int b)]) rfl (by decide +kernel) rfl rfl (Nat.le_of_ble_eq_true rfl) ?_
  have hQ : ∀ x M, Q x M → (qI σM 10 Q) (some (.int x)) σM 10 M := fun _ _ h => ⟨_, rfl, rfl, rfl, h⟩
  generalize (qI σM 10 Q) = Qf at hQ ⊢
  unfold w_X7_ofBend at hs
  refine wp_aload_n 0 dX7_ofBend_0 rfl ?_
  refine wp_iload_n 1 dX7_ofBend_1 rfl ?_
  refine wp_cVi (As := [.int a]) (st := []) (mw_X7_isBend  hs) gX7_ofBend_X7_isBend rfl hy_X7_isBend rfl rfl (by decide) rfl (by decide) (by decide) (Nat.le_of_ble_eq_true rfl) rfl dX7_ofBend_2 (fun v2 M1 hs => ?_)
  refine wp_if_ne (tgt := 12) dX7_ofBend_5 (by decide) (fun c3 => ?_) (fun c3 => ?_)
  · have hs := hs.1 c3
    refine wp_iload_n 2 dX7_ofBend_12 rfl ?_
    by_cases c4 : b = nI 0
    · have hs := hs.1 c4
      refine wp_tableIn (off := 35) (tgt := 48) dX7_ofBend_13 (by rw [c4]; decide) (by rw [c4]; decide) (by rw [c4]; decide +kernel) (by decide) ?_
      refine wp_aload_n 0 dX7_ofBend_48 rfl ?_
      refine wp_get (v := .ref 1) dX7_ofBend_49 rfl (by decide) rfl in_X7_ofBend_X7 0 (by decide) fl_X7_ofBend_7 rfl rfl ?_
      refine wp_bipush (v := (nI 9)) dX7_ofBend_52 (by decide) ?_
      refine wp_iload_n 1 dX7_ofBend_54 rfl ?_
      refine wp_iadd dX7_ofBend_55 ?_
      have hv := hs.1
      have hs := hs.2
      refine wp_iald rfl (by decide) hv dX7_ofBend_56 ?_
      exact wp_ireturn rfl rfl dX7_ofBend_57 (hQ _ _ hs)
    have hs := hs.2 c4
    by_cases c5 : b = nI 1
    · have hs := hs.1 c5
      refine wp_tableIn (off := 45) (tgt := 58) dX7_ofBend_13 (by rw [c5]; decide) (by rw [c5]; decide) (by rw [c5]; decide +kernel) (by decide) ?_
      refine wp_aload_n 0 dX7_ofBend_58 rfl ?_
      refine wp_get (v := .ref 1) dX7_ofBend_59 rfl (by decide) rfl in_X7_ofBend_X7 0 (by decide) fl_X7_ofBend_7 rfl rfl ?_
      refine wp_bipush (v := (nI 16)) dX7_ofBend_62 (by decide) ?_
      refine wp_iald rfl (by decide) (vil rfl) dX7_ofBend_64 ?_
      refine wp_iload_n 1 dX7_ofBend_65 rfl ?_
      refine wp_cSi (As := [.int (M1 1 16), .int a]) (st := []) (mw_X7_has  hs) gX7_ofBend_X7_has rfl hy_X7_has rfl (by decide) (by decide) (Nat.le_of_ble_eq_true rfl) rfl dX7_ofBend_66 (fun v7 M6 hs => ?_)
      refine wp_if_eq (tgt := 76) dX7_ofBend_69 (by decide) (fun c8 => ?_) (fun c8 => ?_)
      · have hs := hs.1 c8
        refine wp_iconst (v := (nI 0)) dX7_ofBend_76 (by decide) ?_
        exact wp_ireturn rfl rfl dX7_ofBend_77 (hQ _ _ hs)
      · have hs := hs.2 c8
        refine wp_iconst (v := (nI 1)) dX7_ofBend_72 (by decide) ?_
        refine wp_goto (tgt := 77) dX7_ofBend_73 (by decide) ?_
        exact wp_ireturn rfl rfl dX7_ofBend_77 (hQ _ _ hs)
    have hs := hs.2 c5
    by_cases c9 : b = nI 2
    · have hs := hs.1 c9
      refine wp_tableIn (off := 65) (tgt := 78) dX7_ofBend_13 (by rw [c9]; decide) (by rw [c9]; decide) (by rw [c9]; decide +kernel) (by decide) ?_
      refine wp_aload_n 0 dX7_ofBend_78 rfl ?_
      refine wp_iload_n 1 dX7_ofBend_79 rfl ?_
      refine wp_aload_n 0 dX7_ofBend_80 rfl ?_
      refine wp_get (v := .ref 1) dX7_ofBend_81 rfl (by decide) rfl in_X7_ofBend_X7 0 (by decide) fl_X7_ofBend_7 rfl rfl ?_
      refine wp_bipush (v := (nI 16)) dX7_ofBend_84 (by decide) ?_
      refine wp_iald rfl (by decide) (vil rfl) dX7_ofBend_86 ?_
      refine wp_aload_n 0 dX7_ofBend_87 rfl ?_
      refine wp_get (v := .ref 1) dX7_ofBend_88 rfl (by decide) rfl in_X7_ofBend_X7 0 (by decide) fl_X7_ofBend_7 rfl rfl ?_
      refine wp_bipush (v := (nI 17)) dX7_ofBend_91 (by decide) ?_
      refine wp_iald rfl (by decide) (vil rfl) dX7_ofBend_93 ?_
      refine wp_cVi (As := [.int a, .int (M1 1 16), .int (M1 1 17)]) (st := []) (mw_X7_reason  hs) gX7_ofBend_X7_reason rfl hy_X7_reason rfl rfl (by decide) rfl (by decide) (by decide) (Nat.le_of_ble_eq_true rfl) rfl dX7_ofBend_94 (fun v11 M10 hs => ?_)
      exact wp_ireturn rfl rfl dX7_ofBend_97 (hQ _ _ hs)
    have hs := hs.2 c9
    by_cases c12 : b = nI 3
    · have hs := hs.1 c12
      refine wp_tableIn (off := 85) (tgt := 98) dX7_ofBend_13 (by rw [c12]; decide) (by rw [c12]; decide) (by rw [c12]; decide +kernel) (by decide) ?_
      refine wp_aload_n 0 dX7_ofBend_98 rfl ?_
      refine wp_iload_n 1 dX7_ofBend_99 rfl ?_
      refine wp_cVi (As := [.int a]) (st := []) (mw_X7_degrees  hs) gX7_ofBend_X7_degrees rfl hy_X7_degrees rfl rfl (by decide) rfl (by decide) (by decide) (Nat.le_of_ble_eq_true rfl) rfl dX7_ofBend_100 (fun v14 M13 hs => ?_)
      exact wp_ireturn rfl rfl dX7_ofBend_103 (hQ _ _ hs)
    have hs := hs.2 c12
    by_cases c15 : b = nI 4
    · have hs := hs.1 c15
      refine wp_tableIn (off := 91) (tgt := 104) dX7_ofBend_13 (by rw [c15]; decide) (by rw [c15]; decide) (by rw [c15]; decide +kernel) (by decide) ?_
      refine wp_aload_n 0 dX7_ofBend_104 rfl ?_
      refine wp_iload_n 1 dX7_ofBend_105 rfl ?_
      refine wp_aload_n 0 dX7_ofBend_106 rfl ?_
      refine wp_get (v := .ref 1) dX7_ofBend_107 rfl (by decide) rfl in_X7_ofBend_X7 0 (by decide) fl_X7_ofBend_7 rfl rfl ?_
      refine wp_bipush (v := (nI 16)) dX7_ofBend_110 (by decide) ?_
      refine wp_iald rfl (by decide) (vil rfl) dX7_ofBend_112 ?_
      refine wp_iconst (v := (nI 1)) dX7_ofBend_113 (by decide) ?_
      refine wp_aload_n 0 dX7_ofBend_114 rfl ?_
      refine wp_get (v := .ref 1) dX7_ofBend_115 rfl (by decide) rfl in_X7_ofBend_X7 0 (by decide) fl_X7_ofBend_7 rfl rfl ?_
      refine wp_bipush (v := (nI 17)) dX7_ofBend_118 (by decide) ?_
      refine wp_iald rfl (by decide) (vil rfl) dX7_ofBend_120 ?_
      refine wp_isub dX7_ofBend_121 ?_
      refine wp_cVi (As := [.int a, .int (M1 1 16), .int ((nI 1) - (M1 1 17))]) (st := []) (mw_X7_reason  hs) gX7_ofBend_X7_reason rfl hy_X7_reason rfl rfl (by decide) rfl (by decide) (by decide) (Nat.le_of_ble_eq_true rfl) rfl dX7_ofBend_122 (fun v17 M16 hs => ?_)
      exact wp_ireturn rfl rfl dX7_ofBend_125 (hQ _ _ hs)
    have hs := hs.2 c15
    have ac4 : ¬ (b).toInt = 0 := fun h => c4 (Int32.toInt_inj.mp (h.trans (by decide)))
    have ac5 : ¬ (b).toInt = 1 := fun h => c5 (Int32.toInt_inj.mp (h.trans (by decide)))
    have ac9 : ¬ (b).toInt = 2 := fun h => c9 (Int32.toInt_inj.mp (h.trans (by decide)))
    have ac12 : ¬ (b).toInt = 3 := fun h => c12 (Int32.toInt_inj.mp (h.trans (by decide)))
    have ac15 : ¬ (b).toInt = 4 := fun h => c15 (Int32.toInt_inj.mp (h.trans (by decide)))
    refine wp_tableOut (tgt := 126) dX7_ofBend_13 (by omega) (by decide) ?_
    refine wp_sipush (v := (-1002 : Int32)) dX7_ofBend_126 (by decide) ?_
    exact wp_ireturn rfl rfl dX7_ofBend_129 (hQ _ _ hs)
  · have hs := hs.2 c3
    refine wp_sipush (v := (-1001 : Int32)) dX7_ofBend_8 (by decide) ?_
    exact wp_ireturn rfl rfl dX7_ofBend_11 (hQ _ _ hs)
abbrev iX7_lengthOf : MI := (cX7_lengthOf, 2, some .int, RX7, yX7_lengthOf, wsX7_lengthOf)
theorem hy_X7_lengthOf : yX7_lengthOf.cls = RX7 ∧ yX7_lengthOf.cls ≠ "java/lang/invoke/MethodHandle" ∧ yX7_lengthOf.cls ≠ "java/lang/invoke/VarHandle" ∧ (parseMethodDescriptor yX7_lengthOf.desc).map (fun d => d.parameters.length) = some 1 := by decide +kernel
theorem in_X7_lengthOf_X7 : ∀ w ∈ u_ws RX7 TX7 13, w ∈ wsX7_lengthOf := by decide +kernel
theorem fl_X7_lengthOf_7 : Cond.fieldLink RX7 7 (TX7 0).1 (TX7 0).2.1 (TX7 0).2.2.1 ∈ wsX7_lengthOf := by decide +kernel
def w_X7_lengthOf (a : Int32) (M : Nat → Nat → Int32) (Q : Int32 → (Nat → Nat → Int32) → Prop) : Prop := w_X7_isFlange a M (fun v2 M1 => ((v2 = 0 → Q (-1001 : Int32) M1) ∧ (¬ v2 = 0 → (vp_in ((nI 1) + a) 23 ∧ Q (M1 1 ((nI 1) + a).toNatClampNeg) M1))))
set_option maxHeartbeats 4000000 in
set_option maxRecDepth 100000 in
theorem mw_X7_lengthOf {E : EN} {a : Int32} {M : Nat → Nat → Int32} {Q : Int32 → (Nat → Nat → Int32) → Prop} (hs : w_X7_lengthOf a M Q) : MW E iX7_lengthOf 3 0 0 false [.ref 0, .int a] σM 10 M (qI σM 10 Q) := by
  refine mw_intro (ls := [(0, .ref 0), (1, .int a)]) rfl (by decide +kernel) rfl rfl (Nat.le_of_ble_eq_true rfl) ?_
  have hQ : ∀ x M, Q x M → (qI σM 10 Q) (some (.int x)) σM 10 M := fun _ _ h => ⟨_, rfl, rfl, rfl, h⟩
  generalize (qI σM 10 Q) = Qf at hQ ⊢
  unfold w_X7_lengthOf at hs
  refine wp_aload_n 0 dX7_lengthOf_0 rfl ?_
  refine wp_iload_n 1 dX7_lengthOf_1 rfl ?_
  refine wp_cVi (As := [.int a]) (st := []) (mw_X7_isFlange  hs) gX7_lengthOf_X7_isFlange rfl hy_X7_isFlange rfl rfl (by decide) rfl (by decide) (by decide) (Nat.le_of_ble_eq_true rfl) rfl dX7_lengthOf_2 (fun v2 M1 hs => ?_)
  refine wp_if_eq (tgt := 19) dX7_lengthOf_5 (by decide) (fun c3 => ?_) (fun c3 => ?_)
  · have hs := hs.1 c3
    refine wp_sipush (v := (-1001 : Int32)) dX7_lengthOf_19 (by decide) ?_
    exact wp_ireturn rfl rfl dX7_lengthOf_22 (hQ _ _ hs)
  · have hs := hs.2 c3
    refine wp_aload_n 0 dX7_lengthOf_8 rfl ?_
    refine wp_get (v := .ref 1) dX7_lengthOf_9 rfl (by decide) rfl in_X7_lengthOf_X7 0 (by decide) fl_X7_lengthOf_7 rfl rfl ?_
    refine wp_iconst (v := (nI 1)) dX7_lengthOf_12 (by decide) ?_
    refine wp_iload_n 1 dX7_lengthOf_13 rfl ?_
    refine wp_iadd dX7_lengthOf_14 ?_
    have hv := hs.1
    have hs := hs.2
    refine wp_iald rfl (by decide) hv dX7_lengthOf_15 ?_
    refine wp_goto (tgt := 22) dX7_lengthOf_16 (by decide) ?_
    exact wp_ireturn rfl rfl dX7_lengthOf_22 (hQ _ _ hs)
abbrev iX7_end : MI := (cX7_end, 6, some .int, RX7, yX7_end, wsX7_end)
theorem hy_X7_end : yX7_end.cls = RX7 ∧ yX7_end.cls ≠ "java/lang/invoke/MethodHandle" ∧ yX7_end.cls ≠ "java/lang/invoke/VarHandle" ∧ (parseMethodDescriptor yX7_end.desc).map (fun d => d.parameters.length) = some 3 := by decide +kernel
theorem in_X7_end_X7 : ∀ w ∈ u_ws RX7 TX7 13, w ∈ wsX7_end := by decide +kernel
theorem fl_X7_end_7 : Cond.fieldLink RX7 7 (TX7 0).1 (TX7 0).2.1 (TX7 0).2.2.1 ∈ wsX7_end := by decide +kernel
theorem fl_X7_end_22 : Cond.fieldLink RX7 22 (TX7 7).1 (TX7 7).2.1 (TX7 7).2.2.1 ∈ wsX7_end := by decide +kernel
theorem fl_X7_end_25 : Cond.fieldLink RX7 25 (TX7 8).1 (TX7 8).2.1 (TX7 8).2.2.1 ∈ wsX7_end := by decide +kernel
theorem fl_X7_end_28 : Cond.fieldLink RX7 28 (TX7 9).1 (TX7 9).2.1 (TX7 9).2.2.1 ∈ wsX7_end := by decide +kernel
theorem fl_X7_end_56 : Cond.fieldLink RX7 56 (TX7 10).1 (TX7 10).2.1 (TX7 10).2.2.1 ∈ wsX7_end := by decide +kernel
def w_X7_end_45 : Nat → Int32 → Int32 → Int32 → Int32 → (Nat → Nat → Int32) → (Int32 → Int32 → (Nat → Nat → Int32) → Prop) → Prop
  | 0, _, _, _, _, _, _ => False
  | n + 1, x2, x3, x4, x5, M, K => (((M 0 10) ≤ x5 → K x4 x5 M) ∧ (¬ (M 0 10) ≤ x5 → (vp_in x5 80 ∧ ((¬ (M 7 x5.toNatClampNeg) = x2 → ∀ y10 : Int32, y10 = x5 + (nI 1) → w_X7_end_45 n x2 x3 x4 y10 M K) ∧ ((M 7 x5.toNatClampNeg) = x2 → ∀ y11 : Int32, y11 = x5 + (nI 1) → w_X7_end_45 n x2 x3 x5 y11 M K)))))
set_option maxHeartbeats 4000000 in
set_option maxRecDepth 100000 in
theorem lp_X7_end_45 {E : EN} {x2 : Int32} {x3 : Int32} {Qf : PST} {K : Int32 → Int32 → (Nat → Nat → Int32) → Prop} (hK : ∀ (z4 : Int32) (z5 : Int32) (M : Nat → Nat → Int32), K z4 z5 M → WP E iX7_end 5 0 0 false 80 [(0, .ref 0), (3, .int x3), (4, .int z4)] [] σM 10 M Qf) : ∀ (nn : Nat) (x4 : Int32) (x5 : Int32) (M : Nat → Nat → Int32), w_X7_end_45 nn x2 x3 x4 x5 M K → WP E iX7_end 5 0 0 false 45 [(0, .ref 0), (2, .int x2), (3, .int x3), (4, .int x4), (5, .int x5)] [] σM 10 M Qf := by
  intro nn
  induction nn with
  | zero => intro x4 x5 M hs; exact hs.elim
  | succ n ih =>
    intro x4 x5 M hs
    unfold w_X7_end_45 at hs
    refine wp_iload 4 dX7_end_45 rfl ?_
    refine wp_aload_n 0 dX7_end_47 rfl ?_
    refine wp_get (v := .int (M 0 10)) dX7_end_48 rfl (by decide) rfl in_X7_end_X7 10 (by decide) fl_X7_end_56 rfl rfl ?_
    refine wp_icmp_ge (tgt := 80) dX7_end_51 (by decide) (fun c8 => ?_) (fun c8 => ?_)
    · have hs := hs.1 c8
      refine wp_sub (ls' := [(0, .ref 0), (3, .int x3), (4, .int x4)]) [0, 2, 3] rfl ?_
      exact hK _ _ _ hs
    · have hs := hs.2 c8
      refine wp_aload_n 0 dX7_end_54 rfl ?_
      refine wp_get (v := .ref 7) dX7_end_55 rfl (by decide) rfl in_X7_end_X7 9 (by decide) fl_X7_end_28 rfl rfl ?_
      refine wp_iload 4 dX7_end_58 rfl ?_
      have hv := hs.1
      have hs := hs.2
      refine wp_iald rfl (by decide) hv dX7_end_60 ?_
      refine wp_iload_n 1 dX7_end_61 rfl ?_
      refine wp_icmp_ne (tgt := 70) dX7_end_62 (by decide) (fun c9 => ?_) (fun c9 => ?_)
      · have hs := hs.1 c9
        refine wp_iload 3 dX7_end_70 rfl ?_
        refine wp_istore (ls' := [(0, .ref 0), (2, .int x2), (3, .int x3), (4, .int x4), (5, .int x5)]) [1, 2, 3, 0, 4] dX7_end_72 rfl (by decide) ?_
        obtain ⟨y10, ey10⟩ : ∃ y : Int32, y = x5 + (nI 1) := ⟨_, rfl⟩
        have hs := hs y10 ey10
        refine wp_iinc (v := y10) (ls' := [(0, .ref 0), (2, .int x2), (3, .int x3), (4, .int x4), (5, .int y10)]) 4 [1, 2, 3, 4, 0] dX7_end_74 rfl (by rw [ey10]; rfl) rfl (by decide) ?_
        refine wp_goto (tgt := 45) dX7_end_77 (by decide) ?_
        refine wp_sub (ls' := [(0, .ref 0), (2, .int x2), (3, .int x3), (4, .int x4), (5, .int y10)]) [0, 1, 2, 3, 4] rfl ?_
        exact ih _ _ _ hs
      · have hs := hs.2 c9
        refine wp_iload 4 dX7_end_65 rfl ?_
        refine wp_goto (tgt := 72) dX7_end_67 (by decide) ?_
        refine wp_istore (ls' := [(0, .ref 0), (2, .int x2), (3, .int x3), (4, .int x5), (5, .int x5)]) [1, 2, 3, 0, 4] dX7_end_72 rfl (by decide) ?_
        obtain ⟨y11, ey11⟩ : ∃ y : Int32, y = x5 + (nI 1) := ⟨_, rfl⟩
        have hs := hs y11 ey11
        refine wp_iinc (v := y11) (ls' := [(0, .ref 0), (2, .int x2), (3, .int x3), (4, .int x5), (5, .int y11)]) 4 [1, 2, 3, 4, 0] dX7_end_74 rfl (by rw [ey11]; rfl) rfl (by decide) ?_
        refine wp_goto (tgt := 45) dX7_end_77 (by decide) ?_
        refine wp_sub (ls' := [(0, .ref 0), (2, .int x2), (3, .int x3), (4, .int x5), (5, .int y11)]) [0, 1, 2, 3, 4] rfl ?_
        exact ih _ _ _ hs
def w_X7_end (a : Int32) (b : Int32) (c : Int32) (M : Nat → Nat → Int32) (Q : Int32 → (Nat → Nat → Int32) → Prop) : Prop := w_X7_isBend a M (fun v2 M1 => ((v2 = 0 → Q (-1001 : Int32) M1) ∧ (¬ v2 = 0 → w_X7_isFlange b M1 (fun v5 M4 => ((¬ v5 = 0 → w_X7_lay a (M4 1 16) (M4 1 17) M4 (fun M7 => w_X7_end_45 FU b c (nI 0) (nI 0) M7 (fun y12 y13 M14 => ((c = 0 → (vp_in y12 80 ∧ Q (M14 5 y12.toNatClampNeg) M14)) ∧ (¬ c = 0 → (vp_in y12 80 ∧ Q (M14 6 y12.toNatClampNeg) M14)))))) ∧ (v5 = 0 → Q (-1001 : Int32) M4))))))
set_option maxHeartbeats 4000000 in
set_option maxRecDepth 100000 in
theorem mw_X7_end {E : EN} {a : Int32} {b : Int32} {c : Int32} {M : Nat → Nat → Int32} {Q : Int32 → (Nat → Nat → Int32) → Prop} (hs : w_X7_end a b c M Q) : MW E iX7_end 5 0 0 false [.ref 0, .int a, .int b, .int c] σM 10 M (qI σM 10 Q) := by
  refine mw_intro (ls := [(0, .ref 0), (1, .int a), (2, .int b), (3, .int c)]) rfl (by decide +kernel) rfl rfl (Nat.le_of_ble_eq_true rfl) ?_
  have hQ : ∀ x M, Q x M → (qI σM 10 Q) (some (.int x)) σM 10 M := fun _ _ h => ⟨_, rfl, rfl, rfl, h⟩
  generalize (qI σM 10 Q) = Qf at hQ ⊢
  unfold w_X7_end at hs
  refine wp_aload_n 0 dX7_end_0 rfl ?_
  refine wp_iload_n 1 dX7_end_1 rfl ?_
  refine wp_cVi (As := [.int a]) (st := []) (mw_X7_isBend  hs) gX7_end_X7_isBend rfl hy_X7_isBend rfl rfl (by decide) rfl (by decide) (by decide) (Nat.le_of_ble_eq_true rfl) rfl dX7_end_2 (fun v2 M1 hs => ?_)
  refine wp_if_eq (tgt := 16) dX7_end_5 (by decide) (fun c3 => ?_) (fun c3 => ?_)
  · have hs := hs.1 c3
    refine wp_sipush (v := (-1001 : Int32)) dX7_end_16 (by decide) ?_
    exact wp_ireturn rfl rfl dX7_end_19 (hQ _ _ hs)
  · have hs := hs.2 c3
    refine wp_aload_n 0 dX7_end_8 rfl ?_
    refine wp_iload_n 2 dX7_end_9 rfl ?_
    refine wp_cVi (As := [.int b]) (st := []) (mw_X7_isFlange  hs) gX7_end_X7_isFlange rfl hy_X7_isFlange rfl rfl (by decide) rfl (by decide) (by decide) (Nat.le_of_ble_eq_true rfl) rfl dX7_end_10 (fun v5 M4 hs => ?_)
    refine wp_if_ne (tgt := 20) dX7_end_13 (by decide) (fun c6 => ?_) (fun c6 => ?_)
    · have hs := hs.1 c6
      refine wp_aload_n 0 dX7_end_20 rfl ?_
      refine wp_iload_n 1 dX7_end_21 rfl ?_
      refine wp_aload_n 0 dX7_end_22 rfl ?_
      refine wp_get (v := .ref 1) dX7_end_23 rfl (by decide) rfl in_X7_end_X7 0 (by decide) fl_X7_end_7 rfl rfl ?_
      refine wp_bipush (v := (nI 16)) dX7_end_26 (by decide) ?_
      refine wp_iald rfl (by decide) (vil rfl) dX7_end_28 ?_
      refine wp_aload_n 0 dX7_end_29 rfl ?_
      refine wp_get (v := .ref 1) dX7_end_30 rfl (by decide) rfl in_X7_end_X7 0 (by decide) fl_X7_end_7 rfl rfl ?_
      refine wp_bipush (v := (nI 17)) dX7_end_33 (by decide) ?_
      refine wp_iald rfl (by decide) (vil rfl) dX7_end_35 ?_
      refine wp_cVv (As := [.int a, .int (M4 1 16), .int (M4 1 17)]) (st := []) (mw_X7_lay  hs) gX7_end_X7_lay rfl hy_X7_lay rfl rfl (by decide) rfl (by decide) (by decide) (Nat.le_of_ble_eq_true rfl) rfl dX7_end_36 (fun  M7 hs => ?_)
      refine wp_iconst (v := (nI 0)) dX7_end_39 (by decide) ?_
      refine wp_istore (ls' := [(0, .ref 0), (1, .int a), (2, .int b), (3, .int c), (4, .int (nI 0))]) [1, 2, 3, 4, 0] dX7_end_40 rfl (by decide) ?_
      refine wp_iconst (v := (nI 0)) dX7_end_42 (by decide) ?_
      refine wp_istore (ls' := [(0, .ref 0), (1, .int a), (2, .int b), (3, .int c), (4, .int (nI 0)), (5, .int (nI 0))]) [1, 2, 3, 4, 5, 0] dX7_end_43 rfl (by decide) ?_
      refine wp_sub (ls' := [(0, .ref 0), (2, .int b), (3, .int c), (4, .int (nI 0)), (5, .int (nI 0))]) [0, 2, 3, 4, 5] rfl ?_
      refine lp_X7_end_45 (K := fun y12 y13 M14 => ((c = 0 → (vp_in y12 80 ∧ Q (M14 5 y12.toNatClampNeg) M14)) ∧ (¬ c = 0 → (vp_in y12 80 ∧ Q (M14 6 y12.toNatClampNeg) M14)))) (fun y12 y13 M14 hs => ?_) FU _ _ _ hs
      refine wp_iload_n 1 dX7_end_80 rfl ?_
      refine wp_if_eq (tgt := 94) dX7_end_81 (by decide) (fun c15 => ?_) (fun c15 => ?_)
      · have hs := hs.1 c15
        refine wp_aload_n 0 dX7_end_94 rfl ?_
        refine wp_get (v := .ref 5) dX7_end_95 rfl (by decide) rfl in_X7_end_X7 7 (by decide) fl_X7_end_22 rfl rfl ?_
        refine wp_iload 2 dX7_end_98 rfl ?_
        have hv := hs.1
        have hs := hs.2
        refine wp_iald rfl (by decide) hv dX7_end_100 ?_
        exact wp_ireturn rfl rfl dX7_end_101 (hQ _ _ hs)
      · have hs := hs.2 c15
        refine wp_aload_n 0 dX7_end_84 rfl ?_
        refine wp_get (v := .ref 6) dX7_end_85 rfl (by decide) rfl in_X7_end_X7 8 (by decide) fl_X7_end_25 rfl rfl ?_
        refine wp_iload 2 dX7_end_88 rfl ?_
        have hv := hs.1
        have hs := hs.2
        refine wp_iald rfl (by decide) hv dX7_end_90 ?_
        refine wp_goto (tgt := 101) dX7_end_91 (by decide) ?_
        exact wp_ireturn rfl rfl dX7_end_101 (hQ _ _ hs)
    · have hs := hs.2 c6
      refine wp_sipush (v := (-1001 : Int32)) dX7_end_16 (by decide) ?_
      exact wp_ireturn rfl rfl dX7_end_19 (hQ _ _ hs)
abbrev iX7_strikers : MI := (cX7_strikers, 3, some .int, RX7, yX7_strikers, wsX7_strikers)
theorem hy_X7_strikers : yX7_strikers.cls = RX7 ∧ yX7_strikers.cls ≠ "java/lang/invoke/MethodHandle" ∧ yX7_strikers.cls ≠ "java/lang/invoke/VarHandle" ∧ (parseMethodDescriptor yX7_strikers.desc).map (fun d => d.parameters.length) = some 1 := by decide +kernel
theorem in_X7_strikers_X7 : ∀ w ∈ u_ws RX7 TX7 13, w ∈ wsX7_strikers := by decide +kernel
theorem fl_X7_strikers_7 : Cond.fieldLink RX7 7 (TX7 0).1 (TX7 0).2.1 (TX7 0).2.2.1 ∈ wsX7_strikers := by decide +kernel
def w_X7_strikers (a : Int32) (M : Nat → Nat → Int32) (Q : Int32 → (Nat → Nat → Int32) → Prop) : Prop := w_X7_isBend a M (fun v2 M1 => ((¬ v2 = 0 → w_X7_lay a (M1 1 16) (M1 1 17) M1 (fun M4 => w_X7_strike (nI 1) M4 (fun v6 M5 => w_X7_swing a M5 (fun M7 => w_X7_strike (nI 1) M7 (fun v9 M8 => Q (v6 ||| v9) M8))))) ∧ (v2 = 0 → Q (-1001 : Int32) M1)))
set_option maxHeartbeats 4000000 in
set_option maxRecDepth 100000 in
theorem mw_X7_strikers {E : EN} {a : Int32} {M : Nat → Nat → Int32} {Q : Int32 → (Nat → Nat → Int32) → Prop} (hs : w_X7_strikers a M Q) : MW E iX7_strikers 5 0 0 false [.ref 0, .int a] σM 10 M (qI σM 10 Q) := by
  refine mw_intro (ls := [(0, .ref 0), (1, .int a)]) rfl (by decide +kernel) rfl rfl (Nat.le_of_ble_eq_true rfl) ?_
  have hQ : ∀ x M, Q x M → (qI σM 10 Q) (some (.int x)) σM 10 M := fun _ _ h => ⟨_, rfl, rfl, rfl, h⟩
  generalize (qI σM 10 Q) = Qf at hQ ⊢
  unfold w_X7_strikers at hs
  refine wp_aload_n 0 dX7_strikers_0 rfl ?_
  refine wp_iload_n 1 dX7_strikers_1 rfl ?_
  refine wp_cVi (As := [.int a]) (st := []) (mw_X7_isBend  hs) gX7_strikers_X7_isBend rfl hy_X7_isBend rfl rfl (by decide) rfl (by decide) (by decide) (Nat.le_of_ble_eq_true rfl) rfl dX7_strikers_2 (fun v2 M1 hs => ?_)
  refine wp_if_ne (tgt := 12) dX7_strikers_5 (by decide) (fun c3 => ?_) (fun c3 => ?_)
  · have hs := hs.1 c3
    refine wp_aload_n 0 dX7_strikers_12 rfl ?_
    refine wp_iload_n 1 dX7_strikers_13 rfl ?_
    refine wp_aload_n 0 dX7_strikers_14 rfl ?_
    refine wp_get (v := .ref 1) dX7_strikers_15 rfl (by decide) rfl in_X7_strikers_X7 0 (by decide) fl_X7_strikers_7 rfl rfl ?_
    refine wp_bipush (v := (nI 16)) dX7_strikers_18 (by decide) ?_
    refine wp_iald rfl (by decide) (vil rfl) dX7_strikers_20 ?_
    refine wp_aload_n 0 dX7_strikers_21 rfl ?_
    refine wp_get (v := .ref 1) dX7_strikers_22 rfl (by decide) rfl in_X7_strikers_X7 0 (by decide) fl_X7_strikers_7 rfl rfl ?_
    refine wp_bipush (v := (nI 17)) dX7_strikers_25 (by decide) ?_
    refine wp_iald rfl (by decide) (vil rfl) dX7_strikers_27 ?_
    refine wp_cVv (As := [.int a, .int (M1 1 16), .int (M1 1 17)]) (st := []) (mw_X7_lay  hs) gX7_strikers_X7_lay rfl hy_X7_lay rfl rfl (by decide) rfl (by decide) (by decide) (Nat.le_of_ble_eq_true rfl) rfl dX7_strikers_28 (fun  M4 hs => ?_)
    refine wp_aload_n 0 dX7_strikers_31 rfl ?_
    refine wp_iconst (v := (nI 1)) dX7_strikers_32 (by decide) ?_
    refine wp_cVi (As := [.int (nI 1)]) (st := []) (mw_X7_strike  hs) gX7_strikers_X7_strike rfl hy_X7_strike rfl rfl (by decide) rfl (by decide) (by decide) (Nat.le_of_ble_eq_true rfl) rfl dX7_strikers_33 (fun v6 M5 hs => ?_)
    refine wp_istore_n (ls' := [(0, .ref 0), (1, .int a), (2, .int v6)]) [1, 2, 0] dX7_strikers_36 rfl (by decide) ?_
    refine wp_aload_n 0 dX7_strikers_37 rfl ?_
    refine wp_iload_n 1 dX7_strikers_38 rfl ?_
    refine wp_cVv (As := [.int a]) (st := []) (mw_X7_swing  hs) gX7_strikers_X7_swing rfl hy_X7_swing rfl rfl (by decide) rfl (by decide) (by decide) (Nat.le_of_ble_eq_true rfl) rfl dX7_strikers_39 (fun  M7 hs => ?_)
    refine wp_iload_n 2 dX7_strikers_42 rfl ?_
    refine wp_aload_n 0 dX7_strikers_43 rfl ?_
    refine wp_iconst (v := (nI 1)) dX7_strikers_44 (by decide) ?_
    refine wp_cVi (As := [.int (nI 1)]) (st := [.int v6]) (mw_X7_strike  hs) gX7_strikers_X7_strike rfl hy_X7_strike rfl rfl (by decide) rfl (by decide) (by decide) (Nat.le_of_ble_eq_true rfl) rfl dX7_strikers_45 (fun v9 M8 hs => ?_)
    refine wp_ior dX7_strikers_48 ?_
    exact wp_ireturn rfl rfl dX7_strikers_49 (hQ _ _ hs)
  · have hs := hs.2 c3
    refine wp_sipush (v := (-1001 : Int32)) dX7_strikers_8 (by decide) ?_
    exact wp_ireturn rfl rfl dX7_strikers_11 (hQ _ _ hs)
abbrev iX7_order : MI := (cX7_order, 5, some .int, RX7, yX7_order, wsX7_order)
theorem hy_X7_order : yX7_order.cls = RX7 ∧ yX7_order.cls ≠ "java/lang/invoke/MethodHandle" ∧ yX7_order.cls ≠ "java/lang/invoke/VarHandle" ∧ (parseMethodDescriptor yX7_order.desc).map (fun d => d.parameters.length) = some 1 := by decide +kernel
theorem in_X7_order_X7 : ∀ w ∈ u_ws RX7 TX7 13, w ∈ wsX7_order := by decide +kernel
theorem fl_X7_order_7 : Cond.fieldLink RX7 7 (TX7 0).1 (TX7 0).2.1 (TX7 0).2.2.1 ∈ wsX7_order := by decide +kernel
def w_X7_order_29 : Nat → Int32 → Int32 → Int32 → (Nat → Nat → Int32) → (Int32 → (Nat → Nat → Int32) → Prop) → (Int32 → Int32 → (Nat → Nat → Int32) → Prop) → Prop
  | 0, _, _, _, _, _, _ => False
  | n + 1, x1, x2, x3, M, Q, K => w_X7_all M (fun v7 M6 => ((x2 = v7 → K x2 x3 M6) ∧ (¬ x2 = v7 → w_X7_nextOf x2 M6 (fun v10 M9 => ((¬ x3 = x1 → ∀ y12 : Int32, y12 = (x2 ||| ((nI 1) <<< (v10 &&& 31))) → ∀ y13 : Int32, y13 = x3 + (nI 1) → w_X7_order_29 n x1 y12 y13 M9 Q K) ∧ (x3 = x1 → Q v10 M9))))))
set_option maxHeartbeats 4000000 in
set_option maxRecDepth 100000 in
theorem lp_X7_order_29 {E : EN} {x1 : Int32} {Qf : PST} {Q : Int32 → (Nat → Nat → Int32) → Prop} {K : Int32 → Int32 → (Nat → Nat → Int32) → Prop} (hQ : ∀ x M, Q x M → Qf (some (.int x)) σM 10 M) (hK : ∀ (z2 : Int32) (z3 : Int32) (M : Nat → Nat → Int32), K z2 z3 M → WP E iX7_order 8 0 0 false 65 [] [] σM 10 M Qf) : ∀ (nn : Nat) (x2 : Int32) (x3 : Int32) (M : Nat → Nat → Int32), w_X7_order_29 nn x1 x2 x3 M Q K → WP E iX7_order 8 0 0 false 29 [(0, .ref 0), (1, .int x1), (2, .int x2), (3, .int x3)] [] σM 10 M Qf := by
  intro nn
  induction nn with
  | zero => intro x2 x3 M hs; exact hs.elim
  | succ n ih =>
    intro x2 x3 M hs
    unfold w_X7_order_29 at hs
    refine wp_iload_n 2 dX7_order_29 rfl ?_
    refine wp_aload_n 0 dX7_order_30 rfl ?_
    refine wp_cVi (As := []) (st := [.int x2]) (mw_X7_all  hs) gX7_order_X7_all rfl hy_X7_all rfl rfl (by decide) rfl (by decide) (by decide) (Nat.le_of_ble_eq_true rfl) rfl dX7_order_31 (fun v7 M6 hs => ?_)
    refine wp_icmp_eq (tgt := 65) dX7_order_34 (by decide) (fun c8 => ?_) (fun c8 => ?_)
    · have hs := hs.1 c8
      refine wp_sub (ls' := []) [] rfl ?_
      exact hK _ _ _ hs
    · have hs := hs.2 c8
      refine wp_aload_n 0 dX7_order_37 rfl ?_
      refine wp_iload_n 2 dX7_order_38 rfl ?_
      refine wp_cVi (As := [.int x2]) (st := []) (mw_X7_nextOf  hs) gX7_order_X7_nextOf rfl hy_X7_nextOf rfl rfl (by decide) rfl (by decide) (by decide) (Nat.le_of_ble_eq_true rfl) rfl dX7_order_39 (fun v10 M9 hs => ?_)
      refine wp_istore (ls' := [(0, .ref 0), (1, .int x1), (2, .int x2), (3, .int x3), (4, .int v10)]) [1, 2, 3, 4, 0] dX7_order_42 rfl (by decide) ?_
      refine wp_iload_n 3 dX7_order_44 rfl ?_
      refine wp_iload_n 1 dX7_order_45 rfl ?_
      refine wp_icmp_ne (tgt := 52) dX7_order_46 (by decide) (fun c11 => ?_) (fun c11 => ?_)
      · have hs := hs.1 c11
        refine wp_iload_n 2 dX7_order_52 rfl ?_
        refine wp_iconst (v := (nI 1)) dX7_order_53 (by decide) ?_
        refine wp_iload 4 dX7_order_54 rfl ?_
        refine wp_ishl dX7_order_56 ?_
        refine wp_ior dX7_order_57 ?_
        refine wp_topi (fun y12 ey12 => ?_)
        have hs := hs y12 ey12
        refine wp_istore_n (ls' := [(0, .ref 0), (1, .int x1), (2, .int y12), (3, .int x3), (4, .int v10)]) [1, 2, 0, 3, 4] dX7_order_58 rfl (by decide) ?_
        obtain ⟨y13, ey13⟩ : ∃ y : Int32, y = x3 + (nI 1) := ⟨_, rfl⟩
        have hs := hs y13 ey13
        refine wp_iinc (v := y13) (ls' := [(0, .ref 0), (1, .int x1), (2, .int y12), (3, .int y13), (4, .int v10)]) 3 [1, 2, 3, 0, 4] dX7_order_59 rfl (by rw [ey13]; rfl) rfl (by decide) ?_
        refine wp_goto (tgt := 29) dX7_order_62 (by decide) ?_
        refine wp_sub (ls' := [(0, .ref 0), (1, .int x1), (2, .int y12), (3, .int y13)]) [0, 1, 2, 3] rfl ?_
        exact ih _ _ _ hs
      · have hs := hs.2 c11
        refine wp_iload 4 dX7_order_49 rfl ?_
        exact wp_ireturn rfl rfl dX7_order_51 (hQ _ _ hs)
def w_X7_order (a : Int32) (M : Nat → Nat → Int32) (Q : Int32 → (Nat → Nat → Int32) → Prop) : Prop := ((0 ≤ a → w_X7_allOrders M (fun v3 M2 => ((¬ v3 = 0 → ∀ y5 : Int32, y5 = (M2 1 16) → w_X7_order_29 FU a y5 (nI 0) M2 Q (fun y14 y15 M16 => Q (-1005 : Int32) M16)) ∧ (v3 = 0 → Q (-1004 : Int32) M2)))) ∧ (¬ 0 ≤ a → Q (-1002 : Int32) M))
set_option maxHeartbeats 4000000 in
set_option maxRecDepth 100000 in
theorem mw_X7_order {E : EN} {a : Int32} {M : Nat → Nat → Int32} {Q : Int32 → (Nat → Nat → Int32) → Prop} (hs : w_X7_order a M Q) : MW E iX7_order 8 0 0 false [.ref 0, .int a] σM 10 M (qI σM 10 Q) := by
  refine mw_intro (ls := [(0, .ref 0), (1, .int a)]) rfl (by decide +kernel) rfl rfl (Nat.le_of_ble_eq_true rfl) ?_
  have hQ : ∀ x M, Q x M → (qI σM 10 Q) (some (.int x)) σM 10 M := fun _ _ h => ⟨_, rfl, rfl, rfl, h⟩
  generalize (qI σM 10 Q) = Qf at hQ ⊢
  unfold w_X7_order at hs
  refine wp_iload_n 1 dX7_order_0 rfl ?_
  refine wp_if_ge (tgt := 8) dX7_order_1 (by decide) (fun c1 => ?_) (fun c1 => ?_)
  · have hs := hs.1 c1
    refine wp_aload_n 0 dX7_order_8 rfl ?_
    refine wp_cVi (As := []) (st := []) (mw_X7_allOrders  hs) gX7_order_X7_allOrders rfl hy_X7_allOrders rfl rfl (by decide) rfl (by decide) (by decide) (Nat.le_of_ble_eq_true rfl) rfl dX7_order_9 (fun v3 M2 hs => ?_)
    refine wp_if_ne (tgt := 19) dX7_order_12 (by decide) (fun c4 => ?_) (fun c4 => ?_)
    · have hs := hs.1 c4
      refine wp_aload_n 0 dX7_order_19 rfl ?_
      refine wp_get (v := .ref 1) dX7_order_20 rfl (by decide) rfl in_X7_order_X7 0 (by decide) fl_X7_order_7 rfl rfl ?_
      refine wp_bipush (v := (nI 16)) dX7_order_23 (by decide) ?_
      refine wp_iald rfl (by decide) (vil rfl) dX7_order_25 ?_
      refine wp_topi (fun y5 ey5 => ?_)
      have hs := hs y5 ey5
      refine wp_istore_n (ls' := [(0, .ref 0), (1, .int a), (2, .int y5)]) [1, 2, 0] dX7_order_26 rfl (by decide) ?_
      refine wp_iconst (v := (nI 0)) dX7_order_27 (by decide) ?_
      refine wp_istore_n (ls' := [(0, .ref 0), (1, .int a), (2, .int y5), (3, .int (nI 0))]) [1, 2, 3, 0] dX7_order_28 rfl (by decide) ?_
      refine wp_sub (ls' := [(0, .ref 0), (1, .int a), (2, .int y5), (3, .int (nI 0))]) [0, 1, 2, 3] rfl ?_
      refine lp_X7_order_29 hQ (K := fun y14 y15 M16 => Q (-1005 : Int32) M16) (fun y14 y15 M16 hs => ?_) FU _ _ _ hs
      refine wp_sipush (v := (-1005 : Int32)) dX7_order_65 (by decide) ?_
      exact wp_ireturn rfl rfl dX7_order_68 (hQ _ _ hs)
    · have hs := hs.2 c4
      refine wp_sipush (v := (-1004 : Int32)) dX7_order_15 (by decide) ?_
      exact wp_ireturn rfl rfl dX7_order_18 (hQ _ _ hs)
  · have hs := hs.2 c1
    refine wp_sipush (v := (-1002 : Int32)) dX7_order_4 (by decide) ?_
    exact wp_ireturn rfl rfl dX7_order_7 (hQ _ _ hs)
abbrev iX7_orders : MI := (cX7_orders, 1, some .int, RX7, yX7_orders, wsX7_orders)
theorem hy_X7_orders : yX7_orders.cls = RX7 ∧ yX7_orders.cls ≠ "java/lang/invoke/MethodHandle" ∧ yX7_orders.cls ≠ "java/lang/invoke/VarHandle" ∧ (parseMethodDescriptor yX7_orders.desc).map (fun d => d.parameters.length) = some 0 := by decide +kernel
def w_X7_orders (M : Nat → Nat → Int32) (Q : Int32 → (Nat → Nat → Int32) → Prop) : Prop := w_X7_allOrders M (fun v2 M1 => Q v2 M1)
set_option maxHeartbeats 4000000 in
set_option maxRecDepth 100000 in
theorem mw_X7_orders {E : EN} {M : Nat → Nat → Int32} {Q : Int32 → (Nat → Nat → Int32) → Prop} (hs : w_X7_orders M Q) : MW E iX7_orders 8 0 0 false [.ref 0] σM 10 M (qI σM 10 Q) := by
  refine mw_intro (ls := [(0, .ref 0)]) rfl (by decide +kernel) rfl rfl (Nat.le_of_ble_eq_true rfl) ?_
  have hQ : ∀ x M, Q x M → (qI σM 10 Q) (some (.int x)) σM 10 M := fun _ _ h => ⟨_, rfl, rfl, rfl, h⟩
  generalize (qI σM 10 Q) = Qf at hQ ⊢
  unfold w_X7_orders at hs
  refine wp_aload_n 0 dX7_orders_0 rfl ?_
  refine wp_cVi (As := []) (st := []) (mw_X7_allOrders  hs) gX7_orders_X7_allOrders rfl hy_X7_allOrders rfl rfl (by decide) rfl (by decide) (by decide) (Nat.le_of_ble_eq_true rfl) rfl dX7_orders_1 (fun v2 M1 hs => ?_)
  exact wp_ireturn rfl rfl dX7_orders_4 (hQ _ _ hs)
abbrev iX7_mustWait : MI := (cX7_mustWait, 3, some .int, RX7, yX7_mustWait, wsX7_mustWait)
theorem hy_X7_mustWait : yX7_mustWait.cls = RX7 ∧ yX7_mustWait.cls ≠ "java/lang/invoke/MethodHandle" ∧ yX7_mustWait.cls ≠ "java/lang/invoke/VarHandle" ∧ (parseMethodDescriptor yX7_mustWait.desc).map (fun d => d.parameters.length) = some 2 := by decide +kernel
theorem in_X7_mustWait_X7 : ∀ w ∈ u_ws RX7 TX7 13, w ∈ wsX7_mustWait := by decide +kernel
theorem fl_X7_mustWait_7 : Cond.fieldLink RX7 7 (TX7 0).1 (TX7 0).2.1 (TX7 0).2.2.1 ∈ wsX7_mustWait := by decide +kernel
def w_X7_mustWait (a : Int32) (b : Int32) (M : Nat → Nat → Int32) (Q : Int32 → (Nat → Nat → Int32) → Prop) : Prop := w_X7_isBend a M (fun v2 M1 => ((v2 = 0 → Q (-1001 : Int32) M1) ∧ (¬ v2 = 0 → w_X7_isBend b M1 (fun v5 M4 => ((v5 = 0 → Q (-1001 : Int32) M4) ∧ (¬ v5 = 0 → w_X7_has (M4 1 16) a M4 (fun v8 M7 => ((¬ v8 = 0 → Q (-1001 : Int32) M7) ∧ (v8 = 0 → w_X7_has (M7 1 16) b M7 (fun v11 M10 => ((v11 = 0 → ((¬ a = b → w_X7_allOrders M10 (fun v15 M14 => ((¬ v15 = 0 → w_X7_countOrders a b M14 (fun v18 M17 => ((¬ v18 = 0 → Q (nI 0) M17) ∧ (v18 = 0 → Q (nI 1) M17)))) ∧ (v15 = 0 → Q (-1004 : Int32) M14)))) ∧ (a = b → Q (-1002 : Int32) M10))) ∧ (¬ v11 = 0 → Q (-1001 : Int32) M10))))))))))))
set_option maxHeartbeats 4000000 in
set_option maxRecDepth 100000 in
theorem mw_X7_mustWait {E : EN} {a : Int32} {b : Int32} {M : Nat → Nat → Int32} {Q : Int32 → (Nat → Nat → Int32) → Prop} (hs : w_X7_mustWait a b M Q) : MW E iX7_mustWait 8 0 0 false [.ref 0, .int a, .int b] σM 10 M (qI σM 10 Q) := by
  refine mw_intro (ls := [(0, .ref 0), (1, .int a), (2, .int b)]) rfl (by decide +kernel) rfl rfl (Nat.le_of_ble_eq_true rfl) ?_
  have hQ : ∀ x M, Q x M → (qI σM 10 Q) (some (.int x)) σM 10 M := fun _ _ h => ⟨_, rfl, rfl, rfl, h⟩
  generalize (qI σM 10 Q) = Qf at hQ ⊢
  unfold w_X7_mustWait at hs
  refine wp_aload_n 0 dX7_mustWait_0 rfl ?_
  refine wp_iload_n 1 dX7_mustWait_1 rfl ?_
  refine wp_cVi (As := [.int a]) (st := []) (mw_X7_isBend  hs) gX7_mustWait_X7_isBend rfl hy_X7_isBend rfl rfl (by decide) rfl (by decide) (by decide) (Nat.le_of_ble_eq_true rfl) rfl dX7_mustWait_2 (fun v2 M1 hs => ?_)
  refine wp_if_eq (tgt := 44) dX7_mustWait_5 (by decide) (fun c3 => ?_) (fun c3 => ?_)
  · have hs := hs.1 c3
    refine wp_sipush (v := (-1001 : Int32)) dX7_mustWait_44 (by decide) ?_
    exact wp_ireturn rfl rfl dX7_mustWait_47 (hQ _ _ hs)
  · have hs := hs.2 c3
    refine wp_aload_n 0 dX7_mustWait_8 rfl ?_
    refine wp_iload_n 2 dX7_mustWait_9 rfl ?_
    refine wp_cVi (As := [.int b]) (st := []) (mw_X7_isBend  hs) gX7_mustWait_X7_isBend rfl hy_X7_isBend rfl rfl (by decide) rfl (by decide) (by decide) (Nat.le_of_ble_eq_true rfl) rfl dX7_mustWait_10 (fun v5 M4 hs => ?_)
    refine wp_if_eq (tgt := 44) dX7_mustWait_13 (by decide) (fun c6 => ?_) (fun c6 => ?_)
    · have hs := hs.1 c6
      refine wp_sipush (v := (-1001 : Int32)) dX7_mustWait_44 (by decide) ?_
      exact wp_ireturn rfl rfl dX7_mustWait_47 (hQ _ _ hs)
    · have hs := hs.2 c6
      refine wp_aload_n 0 dX7_mustWait_16 rfl ?_
      refine wp_get (v := .ref 1) dX7_mustWait_17 rfl (by decide) rfl in_X7_mustWait_X7 0 (by decide) fl_X7_mustWait_7 rfl rfl ?_
      refine wp_bipush (v := (nI 16)) dX7_mustWait_20 (by decide) ?_
      refine wp_iald rfl (by decide) (vil rfl) dX7_mustWait_22 ?_
      refine wp_iload_n 1 dX7_mustWait_23 rfl ?_
      refine wp_cSi (As := [.int (M4 1 16), .int a]) (st := []) (mw_X7_has  hs) gX7_mustWait_X7_has rfl hy_X7_has rfl (by decide) (by decide) (Nat.le_of_ble_eq_true rfl) rfl dX7_mustWait_24 (fun v8 M7 hs => ?_)
      refine wp_if_ne (tgt := 44) dX7_mustWait_27 (by decide) (fun c9 => ?_) (fun c9 => ?_)
      · have hs := hs.1 c9
        refine wp_sipush (v := (-1001 : Int32)) dX7_mustWait_44 (by decide) ?_
        exact wp_ireturn rfl rfl dX7_mustWait_47 (hQ _ _ hs)
      · have hs := hs.2 c9
        refine wp_aload_n 0 dX7_mustWait_30 rfl ?_
        refine wp_get (v := .ref 1) dX7_mustWait_31 rfl (by decide) rfl in_X7_mustWait_X7 0 (by decide) fl_X7_mustWait_7 rfl rfl ?_
        refine wp_bipush (v := (nI 16)) dX7_mustWait_34 (by decide) ?_
        refine wp_iald rfl (by decide) (vil rfl) dX7_mustWait_36 ?_
        refine wp_iload_n 2 dX7_mustWait_37 rfl ?_
        refine wp_cSi (As := [.int (M7 1 16), .int b]) (st := []) (mw_X7_has  hs) gX7_mustWait_X7_has rfl hy_X7_has rfl (by decide) (by decide) (Nat.le_of_ble_eq_true rfl) rfl dX7_mustWait_38 (fun v11 M10 hs => ?_)
        refine wp_if_eq (tgt := 48) dX7_mustWait_41 (by decide) (fun c12 => ?_) (fun c12 => ?_)
        · have hs := hs.1 c12
          refine wp_iload_n 1 dX7_mustWait_48 rfl ?_
          refine wp_iload_n 2 dX7_mustWait_49 rfl ?_
          refine wp_icmp_ne (tgt := 57) dX7_mustWait_50 (by decide) (fun c13 => ?_) (fun c13 => ?_)
          · have hs := hs.1 c13
            refine wp_aload_n 0 dX7_mustWait_57 rfl ?_
            refine wp_cVi (As := []) (st := []) (mw_X7_allOrders  hs) gX7_mustWait_X7_allOrders rfl hy_X7_allOrders rfl rfl (by decide) rfl (by decide) (by decide) (Nat.le_of_ble_eq_true rfl) rfl dX7_mustWait_58 (fun v15 M14 hs => ?_)
            refine wp_if_ne (tgt := 70) dX7_mustWait_61 (by decide) (fun c16 => ?_) (fun c16 => ?_)
            · have hs := hs.1 c16
              refine wp_aload_n 0 dX7_mustWait_70 rfl ?_
              refine wp_iload_n 1 dX7_mustWait_71 rfl ?_
              refine wp_iload_n 2 dX7_mustWait_72 rfl ?_
              refine wp_cVi (As := [.int a, .int b]) (st := []) (mw_X7_countOrders  hs) gX7_mustWait_X7_countOrders rfl hy_X7_countOrders rfl rfl (by decide) rfl (by decide) (by decide) (Nat.le_of_ble_eq_true rfl) rfl dX7_mustWait_73 (fun v18 M17 hs => ?_)
              refine wp_if_ne (tgt := 83) dX7_mustWait_76 (by decide) (fun c19 => ?_) (fun c19 => ?_)
              · have hs := hs.1 c19
                refine wp_iconst (v := (nI 0)) dX7_mustWait_83 (by decide) ?_
                exact wp_ireturn rfl rfl dX7_mustWait_84 (hQ _ _ hs)
              · have hs := hs.2 c19
                refine wp_iconst (v := (nI 1)) dX7_mustWait_79 (by decide) ?_
                refine wp_goto (tgt := 84) dX7_mustWait_80 (by decide) ?_
                exact wp_ireturn rfl rfl dX7_mustWait_84 (hQ _ _ hs)
            · have hs := hs.2 c16
              refine wp_sipush (v := (-1004 : Int32)) dX7_mustWait_64 (by decide) ?_
              refine wp_goto (tgt := 84) dX7_mustWait_67 (by decide) ?_
              exact wp_ireturn rfl rfl dX7_mustWait_84 (hQ _ _ hs)
          · have hs := hs.2 c13
            refine wp_sipush (v := (-1002 : Int32)) dX7_mustWait_53 (by decide) ?_
            exact wp_ireturn rfl rfl dX7_mustWait_56 (hQ _ _ hs)
        · have hs := hs.2 c12
          refine wp_sipush (v := (-1001 : Int32)) dX7_mustWait_44 (by decide) ?_
          exact wp_ireturn rfl rfl dX7_mustWait_47 (hQ _ _ hs)
abbrev iX7_canNow : MI := (cX7_canNow, 3, some .int, RX7, yX7_canNow, wsX7_canNow)
theorem hy_X7_canNow : yX7_canNow.cls = RX7 ∧ yX7_canNow.cls ≠ "java/lang/invoke/MethodHandle" ∧ yX7_canNow.cls ≠ "java/lang/invoke/VarHandle" ∧ (parseMethodDescriptor yX7_canNow.desc).map (fun d => d.parameters.length) = some 0 := by decide +kernel
theorem in_X7_canNow_X7 : ∀ w ∈ u_ws RX7 TX7 13, w ∈ wsX7_canNow := by decide +kernel
theorem fl_X7_canNow_7 : Cond.fieldLink RX7 7 (TX7 0).1 (TX7 0).2.1 (TX7 0).2.2.1 ∈ wsX7_canNow := by decide +kernel
def w_X7_canNow_4 : Nat → Int32 → Int32 → (Nat → Nat → Int32) → (Int32 → Int32 → (Nat → Nat → Int32) → Prop) → Prop
  | 0, _, _, _, _ => False
  | n + 1, x1, x2, M, K => (((M 1 0) ≤ x2 → K x1 x2 M) ∧ (¬ (M 1 0) ≤ x2 → w_X7_reason x2 (M 1 16) (M 1 17) M (fun v3 M2 => ((¬ v3 = 0 → ∀ y5 : Int32, y5 = (x1 ||| (nI 0)) → ∀ y6 : Int32, y6 = x2 + (nI 1) → w_X7_canNow_4 n y5 y6 M2 K) ∧ (v3 = 0 → ∀ y7 : Int32, y7 = (x1 ||| ((nI 1) <<< (x2 &&& 31))) → ∀ y8 : Int32, y8 = x2 + (nI 1) → w_X7_canNow_4 n y7 y8 M2 K)))))
set_option maxHeartbeats 4000000 in
set_option maxRecDepth 100000 in
theorem lp_X7_canNow_4 {E : EN} {Qf : PST} {K : Int32 → Int32 → (Nat → Nat → Int32) → Prop} (hK : ∀ (z1 : Int32) (z2 : Int32) (M : Nat → Nat → Int32), K z1 z2 M → WP E iX7_canNow 6 0 0 false 52 [(1, .int z1)] [] σM 10 M Qf) : ∀ (nn : Nat) (x1 : Int32) (x2 : Int32) (M : Nat → Nat → Int32), w_X7_canNow_4 nn x1 x2 M K → WP E iX7_canNow 6 0 0 false 4 [(0, .ref 0), (1, .int x1), (2, .int x2)] [] σM 10 M Qf := by
  intro nn
  induction nn with
  | zero => intro x1 x2 M hs; exact hs.elim
  | succ n ih =>
    intro x1 x2 M hs
    unfold w_X7_canNow_4 at hs
    refine wp_iload_n 2 dX7_canNow_4 rfl ?_
    refine wp_aload_n 0 dX7_canNow_5 rfl ?_
    refine wp_get (v := .ref 1) dX7_canNow_6 rfl (by decide) rfl in_X7_canNow_X7 0 (by decide) fl_X7_canNow_7 rfl rfl ?_
    refine wp_iconst (v := (nI 0)) dX7_canNow_9 (by decide) ?_
    refine wp_iald rfl (by decide) (vil rfl) dX7_canNow_10 ?_
    refine wp_icmp_ge (tgt := 52) dX7_canNow_11 (by decide) (fun c1 => ?_) (fun c1 => ?_)
    · have hs := hs.1 c1
      refine wp_sub (ls' := [(1, .int x1)]) [1] rfl ?_
      exact hK _ _ _ hs
    · have hs := hs.2 c1
      refine wp_iload_n 1 dX7_canNow_14 rfl ?_
      refine wp_aload_n 0 dX7_canNow_15 rfl ?_
      refine wp_iload_n 2 dX7_canNow_16 rfl ?_
      refine wp_aload_n 0 dX7_canNow_17 rfl ?_
      refine wp_get (v := .ref 1) dX7_canNow_18 rfl (by decide) rfl in_X7_canNow_X7 0 (by decide) fl_X7_canNow_7 rfl rfl ?_
      refine wp_bipush (v := (nI 16)) dX7_canNow_21 (by decide) ?_
      refine wp_iald rfl (by decide) (vil rfl) dX7_canNow_23 ?_
      refine wp_aload_n 0 dX7_canNow_24 rfl ?_
      refine wp_get (v := .ref 1) dX7_canNow_25 rfl (by decide) rfl in_X7_canNow_X7 0 (by decide) fl_X7_canNow_7 rfl rfl ?_
      refine wp_bipush (v := (nI 17)) dX7_canNow_28 (by decide) ?_
      refine wp_iald rfl (by decide) (vil rfl) dX7_canNow_30 ?_
      refine wp_cVi (As := [.int x2, .int (M 1 16), .int (M 1 17)]) (st := [.int x1]) (mw_X7_reason  hs) gX7_canNow_X7_reason rfl hy_X7_reason rfl rfl (by decide) rfl (by decide) (by decide) (Nat.le_of_ble_eq_true rfl) rfl dX7_canNow_31 (fun v3 M2 hs => ?_)
      refine wp_if_ne (tgt := 43) dX7_canNow_34 (by decide) (fun c4 => ?_) (fun c4 => ?_)
      · have hs := hs.1 c4
        refine wp_iconst (v := (nI 0)) dX7_canNow_43 (by decide) ?_
        refine wp_ior dX7_canNow_44 ?_
        refine wp_topi (fun y5 ey5 => ?_)
        have hs := hs y5 ey5
        refine wp_istore_n (ls' := [(0, .ref 0), (1, .int y5), (2, .int x2)]) [1, 0, 2] dX7_canNow_45 rfl (by decide) ?_
        obtain ⟨y6, ey6⟩ : ∃ y : Int32, y = x2 + (nI 1) := ⟨_, rfl⟩
        have hs := hs y6 ey6
        refine wp_iinc (v := y6) (ls' := [(0, .ref 0), (1, .int y5), (2, .int y6)]) 2 [1, 2, 0] dX7_canNow_46 rfl (by rw [ey6]; rfl) rfl (by decide) ?_
        refine wp_goto (tgt := 4) dX7_canNow_49 (by decide) ?_
        refine wp_sub (ls' := [(0, .ref 0), (1, .int y5), (2, .int y6)]) [0, 1, 2] rfl ?_
        exact ih _ _ _ hs
      · have hs := hs.2 c4
        refine wp_iconst (v := (nI 1)) dX7_canNow_37 (by decide) ?_
        refine wp_iload_n 2 dX7_canNow_38 rfl ?_
        refine wp_ishl dX7_canNow_39 ?_
        refine wp_goto (tgt := 44) dX7_canNow_40 (by decide) ?_
        refine wp_ior dX7_canNow_44 ?_
        refine wp_topi (fun y7 ey7 => ?_)
        have hs := hs y7 ey7
        refine wp_istore_n (ls' := [(0, .ref 0), (1, .int y7), (2, .int x2)]) [1, 0, 2] dX7_canNow_45 rfl (by decide) ?_
        obtain ⟨y8, ey8⟩ : ∃ y : Int32, y = x2 + (nI 1) := ⟨_, rfl⟩
        have hs := hs y8 ey8
        refine wp_iinc (v := y8) (ls' := [(0, .ref 0), (1, .int y7), (2, .int y8)]) 2 [1, 2, 0] dX7_canNow_46 rfl (by rw [ey8]; rfl) rfl (by decide) ?_
        refine wp_goto (tgt := 4) dX7_canNow_49 (by decide) ?_
        refine wp_sub (ls' := [(0, .ref 0), (1, .int y7), (2, .int y8)]) [0, 1, 2] rfl ?_
        exact ih _ _ _ hs
def w_X7_canNow (M : Nat → Nat → Int32) (Q : Int32 → (Nat → Nat → Int32) → Prop) : Prop := w_X7_canNow_4 FU (nI 0) (nI 0) M (fun y9 y10 M11 => Q y9 M11)
set_option maxHeartbeats 4000000 in
set_option maxRecDepth 100000 in
theorem mw_X7_canNow {E : EN} {M : Nat → Nat → Int32} {Q : Int32 → (Nat → Nat → Int32) → Prop} (hs : w_X7_canNow M Q) : MW E iX7_canNow 6 0 0 false [.ref 0] σM 10 M (qI σM 10 Q) := by
  refine mw_intro (ls := [(0, .ref 0)]) rfl (by decide +kernel) rfl rfl (Nat.le_of_ble_eq_true rfl) ?_
  have hQ : ∀ x M, Q x M → (qI σM 10 Q) (some (.int x)) σM 10 M := fun _ _ h => ⟨_, rfl, rfl, rfl, h⟩
  generalize (qI σM 10 Q) = Qf at hQ ⊢
  unfold w_X7_canNow at hs
  refine wp_iconst (v := (nI 0)) dX7_canNow_0 (by decide) ?_
  refine wp_istore_n (ls' := [(0, .ref 0), (1, .int (nI 0))]) [1, 0] dX7_canNow_1 rfl (by decide) ?_
  refine wp_iconst (v := (nI 0)) dX7_canNow_2 (by decide) ?_
  refine wp_istore_n (ls' := [(0, .ref 0), (1, .int (nI 0)), (2, .int (nI 0))]) [1, 2, 0] dX7_canNow_3 rfl (by decide) ?_
  refine wp_sub (ls' := [(0, .ref 0), (1, .int (nI 0)), (2, .int (nI 0))]) [0, 1, 2] rfl ?_
  refine lp_X7_canNow_4 (K := fun y9 y10 M11 => Q y9 M11) (fun y9 y10 M11 hs => ?_) FU _ _ _ hs
  refine wp_iload_n 0 dX7_canNow_52 rfl ?_
  exact wp_ireturn rfl rfl dX7_canNow_53 (hQ _ _ hs)
abbrev iX7_wholeLength : MI := (cX7_wholeLength, 3, some .int, RX7, yX7_wholeLength, wsX7_wholeLength)
theorem hy_X7_wholeLength : yX7_wholeLength.cls = RX7 ∧ yX7_wholeLength.cls ≠ "java/lang/invoke/MethodHandle" ∧ yX7_wholeLength.cls ≠ "java/lang/invoke/VarHandle" ∧ (parseMethodDescriptor yX7_wholeLength.desc).map (fun d => d.parameters.length) = some 0 := by decide +kernel
theorem in_X7_wholeLength_X7 : ∀ w ∈ u_ws RX7 TX7 13, w ∈ wsX7_wholeLength := by decide +kernel
theorem fl_X7_wholeLength_7 : Cond.fieldLink RX7 7 (TX7 0).1 (TX7 0).2.1 (TX7 0).2.2.1 ∈ wsX7_wholeLength := by decide +kernel
def w_X7_wholeLength_4 : Nat → Int32 → Int32 → (Nat → Nat → Int32) → (Int32 → Int32 → (Nat → Nat → Int32) → Prop) → Prop
  | 0, _, _, _, _ => False
  | n + 1, x1, x2, M, K => (((M 1 0) < x2 → K x1 x2 M) ∧ (¬ (M 1 0) < x2 → (vp_in ((nI 1) + x2) 23 ∧ ∀ y2 : Int32, y2 = (x1 + (M 1 ((nI 1) + x2).toNatClampNeg)) → ∀ y3 : Int32, y3 = x2 + (nI 1) → w_X7_wholeLength_4 n y2 y3 M K)))
set_option maxHeartbeats 4000000 in
set_option maxRecDepth 100000 in
theorem lp_X7_wholeLength_4 {E : EN} {Qf : PST} {K : Int32 → Int32 → (Nat → Nat → Int32) → Prop} (hK : ∀ (z1 : Int32) (z2 : Int32) (M : Nat → Nat → Int32), K z1 z2 M → WP E iX7_wholeLength 1 0 0 false 31 [(1, .int z1)] [] σM 10 M Qf) : ∀ (nn : Nat) (x1 : Int32) (x2 : Int32) (M : Nat → Nat → Int32), w_X7_wholeLength_4 nn x1 x2 M K → WP E iX7_wholeLength 1 0 0 false 4 [(0, .ref 0), (1, .int x1), (2, .int x2)] [] σM 10 M Qf := by
  intro nn
  induction nn with
  | zero => intro x1 x2 M hs; exact hs.elim
  | succ n ih =>
    intro x1 x2 M hs
    unfold w_X7_wholeLength_4 at hs
    refine wp_iload_n 2 dX7_wholeLength_4 rfl ?_
    refine wp_aload_n 0 dX7_wholeLength_5 rfl ?_
    refine wp_get (v := .ref 1) dX7_wholeLength_6 rfl (by decide) rfl in_X7_wholeLength_X7 0 (by decide) fl_X7_wholeLength_7 rfl rfl ?_
    refine wp_iconst (v := (nI 0)) dX7_wholeLength_9 (by decide) ?_
    refine wp_iald rfl (by decide) (vil rfl) dX7_wholeLength_10 ?_
    refine wp_icmp_gt (tgt := 31) dX7_wholeLength_11 (by decide) (fun c1 => ?_) (fun c1 => ?_)
    · have hs := hs.1 c1
      refine wp_sub (ls' := [(1, .int x1)]) [1] rfl ?_
      exact hK _ _ _ hs
    · have hs := hs.2 c1
      refine wp_iload_n 1 dX7_wholeLength_14 rfl ?_
      refine wp_aload_n 0 dX7_wholeLength_15 rfl ?_
      refine wp_get (v := .ref 1) dX7_wholeLength_16 rfl (by decide) rfl in_X7_wholeLength_X7 0 (by decide) fl_X7_wholeLength_7 rfl rfl ?_
      refine wp_iconst (v := (nI 1)) dX7_wholeLength_19 (by decide) ?_
      refine wp_iload_n 2 dX7_wholeLength_20 rfl ?_
      refine wp_iadd dX7_wholeLength_21 ?_
      have hv := hs.1
      have hs := hs.2
      refine wp_iald rfl (by decide) hv dX7_wholeLength_22 ?_
      refine wp_iadd dX7_wholeLength_23 ?_
      refine wp_topi (fun y2 ey2 => ?_)
      have hs := hs y2 ey2
      refine wp_istore_n (ls' := [(0, .ref 0), (1, .int y2), (2, .int x2)]) [1, 0, 2] dX7_wholeLength_24 rfl (by decide) ?_
      obtain ⟨y3, ey3⟩ : ∃ y : Int32, y = x2 + (nI 1) := ⟨_, rfl⟩
      have hs := hs y3 ey3
      refine wp_iinc (v := y3) (ls' := [(0, .ref 0), (1, .int y2), (2, .int y3)]) 2 [1, 2, 0] dX7_wholeLength_25 rfl (by rw [ey3]; rfl) rfl (by decide) ?_
      refine wp_goto (tgt := 4) dX7_wholeLength_28 (by decide) ?_
      refine wp_sub (ls' := [(0, .ref 0), (1, .int y2), (2, .int y3)]) [0, 1, 2] rfl ?_
      exact ih _ _ _ hs
def w_X7_wholeLength (M : Nat → Nat → Int32) (Q : Int32 → (Nat → Nat → Int32) → Prop) : Prop := w_X7_wholeLength_4 FU (nI 0) (nI 0) M (fun y4 y5 M6 => Q y4 M6)
set_option maxHeartbeats 4000000 in
set_option maxRecDepth 100000 in
theorem mw_X7_wholeLength {E : EN} {M : Nat → Nat → Int32} {Q : Int32 → (Nat → Nat → Int32) → Prop} (hs : w_X7_wholeLength M Q) : MW E iX7_wholeLength 1 0 0 false [.ref 0] σM 10 M (qI σM 10 Q) := by
  refine mw_intro (ls := [(0, .ref 0)]) rfl (by decide +kernel) rfl rfl (Nat.le_of_ble_eq_true rfl) ?_
  have hQ : ∀ x M, Q x M → (qI σM 10 Q) (some (.int x)) σM 10 M := fun _ _ h => ⟨_, rfl, rfl, rfl, h⟩
  generalize (qI σM 10 Q) = Qf at hQ ⊢
  unfold w_X7_wholeLength at hs
  refine wp_iconst (v := (nI 0)) dX7_wholeLength_0 (by decide) ?_
  refine wp_istore_n (ls' := [(0, .ref 0), (1, .int (nI 0))]) [1, 0] dX7_wholeLength_1 rfl (by decide) ?_
  refine wp_iconst (v := (nI 0)) dX7_wholeLength_2 (by decide) ?_
  refine wp_istore_n (ls' := [(0, .ref 0), (1, .int (nI 0)), (2, .int (nI 0))]) [1, 2, 0] dX7_wholeLength_3 rfl (by decide) ?_
  refine wp_sub (ls' := [(0, .ref 0), (1, .int (nI 0)), (2, .int (nI 0))]) [0, 1, 2] rfl ?_
  refine lp_X7_wholeLength_4 (K := fun y4 y5 M6 => Q y4 M6) (fun y4 y5 M6 hs => ?_) FU _ _ _ hs
  refine wp_iload_n 0 dX7_wholeLength_31 rfl ?_
  exact wp_ireturn rfl rfl dX7_wholeLength_32 (hQ _ _ hs)
abbrev iX7_count : MI := (cX7_count, 2, some .int, RX7, yX7_count, wsX7_count)
theorem hy_X7_count : yX7_count.cls = RX7 ∧ yX7_count.cls ≠ "java/lang/invoke/MethodHandle" ∧ yX7_count.cls ≠ "java/lang/invoke/VarHandle" ∧ (parseMethodDescriptor yX7_count.desc).map (fun d => d.parameters.length) = some 1 := by decide +kernel
theorem in_X7_count_X7 : ∀ w ∈ u_ws RX7 TX7 13, w ∈ wsX7_count := by decide +kernel
theorem fl_X7_count_7 : Cond.fieldLink RX7 7 (TX7 0).1 (TX7 0).2.1 (TX7 0).2.2.1 ∈ wsX7_count := by decide +kernel
theorem fl_X7_count_41 : Cond.fieldLink RX7 41 (TX7 2).1 (TX7 2).2.1 (TX7 2).2.2.1 ∈ wsX7_count := by decide +kernel
theorem fl_X7_count_119 : Cond.fieldLink RX7 119 (TX7 6).1 (TX7 6).2.1 (TX7 6).2.2.1 ∈ wsX7_count := by decide +kernel
def w_X7_count (a : Int32) (M : Nat → Nat → Int32) (Q : Int32 → (Nat → Nat → Int32) → Prop) : Prop := ((a = nI 0 → Q (M 1 0) M) ∧ (¬ a = nI 0 → ((a = nI 1 → w_X7_many (M 1 16) M (fun v4 M3 => Q v4 M3)) ∧ (¬ a = nI 1 → ((a = nI 2 → Q (M 1 17) M) ∧ (¬ a = nI 2 → ((a = nI 3 → w_X7_allOrders M (fun v8 M7 => ((v8 ≤ 0 → Q (nI 0) M7) ∧ (¬ v8 ≤ 0 → Q (nI 1) M7)))) ∧ (¬ a = nI 3 → ((a = nI 4 → w_X7_canNow M (fun v12 M11 => Q v12 M11)) ∧ (¬ a = nI 4 → ((a = nI 5 → w_X7_turnings M (fun v15 M14 => Q v15 M14)) ∧ (¬ a = nI 5 → ((a = nI 6 → w_X7_wholeLength M (fun v18 M17 => Q v18 M17)) ∧ (¬ a = nI 6 → ((a = nI 7 → Q (M 1 22) M) ∧ (¬ a = nI 7 → ((a = nI 8 → (vp_in (((nI 18) + a) - (nI 8)) 23 ∧ Q (M 1 (((nI 18) + a) - (nI 8)).toNatClampNeg) M)) ∧ (¬ a = nI 8 → ((a = nI 9 → (vp_in (((nI 18) + a) - (nI 8)) 23 ∧ Q (M 1 (((nI 18) + a) - (nI 8)).toNatClampNeg) M)) ∧ (¬ a = nI 9 → ((a = nI 10 → (vp_in (((nI 18) + a) - (nI 8)) 23 ∧ Q (M 1 (((nI 18) + a) - (nI 8)).toNatClampNeg) M)) ∧ (¬ a = nI 10 → ((a = nI 11 → (vp_in (((nI 18) + a) - (nI 8)) 23 ∧ Q (M 1 (((nI 18) + a) - (nI 8)).toNatClampNeg) M)) ∧ (¬ a = nI 11 → ((a = nI 12 → Q (M 0 2) M) ∧ (¬ a = nI 12 → ((a = nI 13 → Q (M 0 6) M) ∧ (¬ a = nI 13 → Q (-1002 : Int32) M))))))))))))))))))))))))))))
set_option maxHeartbeats 4000000 in
set_option maxRecDepth 100000 in
theorem mw_X7_count {E : EN} {a : Int32} {M : Nat → Nat → Int32} {Q : Int32 → (Nat → Nat → Int32) → Prop} (hs : w_X7_count a M Q) : MW E iX7_count 9 0 0 false [.ref 0, .int a] σM 10 M (qI σM 10 Q) := by
  refine mw_intro (ls := [(0, .ref 0), (1, .int a)]) rfl (by decide +kernel) rfl rfl (Nat.le_of_ble_eq_true rfl) ?_
  have hQ : ∀ x M, Q x M → (qI σM 10 Q) (some (.int x)) σM 10 M := fun _ _ h => ⟨_, rfl, rfl, rfl, h⟩
  generalize (qI σM 10 Q) = Qf at hQ ⊢
  unfold w_X7_count at hs
  refine wp_iload_n 1 dX7_count_0 rfl ?_
  by_cases c1 : a = nI 0
  · have hs := hs.1 c1
    refine wp_tableIn (off := 71) (tgt := 72) dX7_count_1 (by rw [c1]; decide) (by rw [c1]; decide) (by rw [c1]; decide +kernel) (by decide) ?_
    refine wp_aload_n 0 dX7_count_72 rfl ?_
    refine wp_get (v := .ref 1) dX7_count_73 rfl (by decide) rfl in_X7_count_X7 0 (by decide) fl_X7_count_7 rfl rfl ?_
    refine wp_iconst (v := (nI 0)) dX7_count_76 (by decide) ?_
    refine wp_iald rfl (by decide) (vil rfl) dX7_count_77 ?_
    exact wp_ireturn rfl rfl dX7_count_78 (hQ _ _ hs)
  have hs := hs.2 c1
  by_cases c2 : a = nI 1
  · have hs := hs.1 c2
    refine wp_tableIn (off := 78) (tgt := 79) dX7_count_1 (by rw [c2]; decide) (by rw [c2]; decide) (by rw [c2]; decide +kernel) (by decide) ?_
    refine wp_aload_n 0 dX7_count_79 rfl ?_
    refine wp_get (v := .ref 1) dX7_count_80 rfl (by decide) rfl in_X7_count_X7 0 (by decide) fl_X7_count_7 rfl rfl ?_
    refine wp_bipush (v := (nI 16)) dX7_count_83 (by decide) ?_
    refine wp_iald rfl (by decide) (vil rfl) dX7_count_85 ?_
    refine wp_cSi (As := [.int (M 1 16)]) (st := []) (mw_X7_many  hs) gX7_count_X7_many rfl hy_X7_many rfl (by decide) (by decide) (Nat.le_of_ble_eq_true rfl) rfl dX7_count_86 (fun v4 M3 hs => ?_)
    exact wp_ireturn rfl rfl dX7_count_89 (hQ _ _ hs)
  have hs := hs.2 c2
  by_cases c5 : a = nI 2
  · have hs := hs.1 c5
    refine wp_tableIn (off := 89) (tgt := 90) dX7_count_1 (by rw [c5]; decide) (by rw [c5]; decide) (by rw [c5]; decide +kernel) (by decide) ?_
    refine wp_aload_n 0 dX7_count_90 rfl ?_
    refine wp_get (v := .ref 1) dX7_count_91 rfl (by decide) rfl in_X7_count_X7 0 (by decide) fl_X7_count_7 rfl rfl ?_
    refine wp_bipush (v := (nI 17)) dX7_count_94 (by decide) ?_
    refine wp_iald rfl (by decide) (vil rfl) dX7_count_96 ?_
    exact wp_ireturn rfl rfl dX7_count_97 (hQ _ _ hs)
  have hs := hs.2 c5
  by_cases c6 : a = nI 3
  · have hs := hs.1 c6
    refine wp_tableIn (off := 97) (tgt := 98) dX7_count_1 (by rw [c6]; decide) (by rw [c6]; decide) (by rw [c6]; decide +kernel) (by decide) ?_
    refine wp_aload_n 0 dX7_count_98 rfl ?_
    refine wp_cVi (As := []) (st := []) (mw_X7_allOrders  hs) gX7_count_X7_allOrders rfl hy_X7_allOrders rfl rfl (by decide) rfl (by decide) (by decide) (Nat.le_of_ble_eq_true rfl) rfl dX7_count_99 (fun v8 M7 hs => ?_)
    refine wp_if_le (tgt := 109) dX7_count_102 (by decide) (fun c9 => ?_) (fun c9 => ?_)
    · have hs := hs.1 c9
      refine wp_iconst (v := (nI 0)) dX7_count_109 (by decide) ?_
      exact wp_ireturn rfl rfl dX7_count_110 (hQ _ _ hs)
    · have hs := hs.2 c9
      refine wp_iconst (v := (nI 1)) dX7_count_105 (by decide) ?_
      refine wp_goto (tgt := 110) dX7_count_106 (by decide) ?_
      exact wp_ireturn rfl rfl dX7_count_110 (hQ _ _ hs)
  have hs := hs.2 c6
  by_cases c10 : a = nI 4
  · have hs := hs.1 c10
    refine wp_tableIn (off := 110) (tgt := 111) dX7_count_1 (by rw [c10]; decide) (by rw [c10]; decide) (by rw [c10]; decide +kernel) (by decide) ?_
    refine wp_aload_n 0 dX7_count_111 rfl ?_
    refine wp_cVi (As := []) (st := []) (mw_X7_canNow  hs) gX7_count_X7_canNow rfl hy_X7_canNow rfl rfl (by decide) rfl (by decide) (by decide) (Nat.le_of_ble_eq_true rfl) rfl dX7_count_112 (fun v12 M11 hs => ?_)
    exact wp_ireturn rfl rfl dX7_count_115 (hQ _ _ hs)
  have hs := hs.2 c10
  by_cases c13 : a = nI 5
  · have hs := hs.1 c13
    refine wp_tableIn (off := 115) (tgt := 116) dX7_count_1 (by rw [c13]; decide) (by rw [c13]; decide) (by rw [c13]; decide +kernel) (by decide) ?_
    refine wp_aload_n 0 dX7_count_116 rfl ?_
    refine wp_cVi (As := []) (st := []) (mw_X7_turnings  hs) gX7_count_X7_turnings rfl hy_X7_turnings rfl rfl (by decide) rfl (by decide) (by decide) (Nat.le_of_ble_eq_true rfl) rfl dX7_count_117 (fun v15 M14 hs => ?_)
    exact wp_ireturn rfl rfl dX7_count_120 (hQ _ _ hs)
  have hs := hs.2 c13
  by_cases c16 : a = nI 6
  · have hs := hs.1 c16
    refine wp_tableIn (off := 120) (tgt := 121) dX7_count_1 (by rw [c16]; decide) (by rw [c16]; decide) (by rw [c16]; decide +kernel) (by decide) ?_
    refine wp_aload_n 0 dX7_count_121 rfl ?_
    refine wp_cVi (As := []) (st := []) (mw_X7_wholeLength  hs) gX7_count_X7_wholeLength rfl hy_X7_wholeLength rfl rfl (by decide) rfl (by decide) (by decide) (Nat.le_of_ble_eq_true rfl) rfl dX7_count_122 (fun v18 M17 hs => ?_)
    exact wp_ireturn rfl rfl dX7_count_125 (hQ _ _ hs)
  have hs := hs.2 c16
  by_cases c19 : a = nI 7
  · have hs := hs.1 c19
    refine wp_tableIn (off := 125) (tgt := 126) dX7_count_1 (by rw [c19]; decide) (by rw [c19]; decide) (by rw [c19]; decide +kernel) (by decide) ?_
    refine wp_aload_n 0 dX7_count_126 rfl ?_
    refine wp_get (v := .ref 1) dX7_count_127 rfl (by decide) rfl in_X7_count_X7 0 (by decide) fl_X7_count_7 rfl rfl ?_
    refine wp_bipush (v := (nI 22)) dX7_count_130 (by decide) ?_
    refine wp_iald rfl (by decide) (vil rfl) dX7_count_132 ?_
    exact wp_ireturn rfl rfl dX7_count_133 (hQ _ _ hs)
  have hs := hs.2 c19
  by_cases c20 : a = nI 8
  · have hs := hs.1 c20
    refine wp_tableIn (off := 133) (tgt := 134) dX7_count_1 (by rw [c20]; decide) (by rw [c20]; decide) (by rw [c20]; decide +kernel) (by decide) ?_
    refine wp_aload_n 0 dX7_count_134 rfl ?_
    refine wp_get (v := .ref 1) dX7_count_135 rfl (by decide) rfl in_X7_count_X7 0 (by decide) fl_X7_count_7 rfl rfl ?_
    refine wp_bipush (v := (nI 18)) dX7_count_138 (by decide) ?_
    refine wp_iload_n 1 dX7_count_140 rfl ?_
    refine wp_iadd dX7_count_141 ?_
    refine wp_bipush (v := (nI 8)) dX7_count_142 (by decide) ?_
    refine wp_isub dX7_count_144 ?_
    have hv := hs.1
    have hs := hs.2
    refine wp_iald rfl (by decide) hv dX7_count_145 ?_
    exact wp_ireturn rfl rfl dX7_count_146 (hQ _ _ hs)
  have hs := hs.2 c20
  by_cases c21 : a = nI 9
  · have hs := hs.1 c21
    refine wp_tableIn (off := 133) (tgt := 134) dX7_count_1 (by rw [c21]; decide) (by rw [c21]; decide) (by rw [c21]; decide +kernel) (by decide) ?_
    refine wp_aload_n 0 dX7_count_134 rfl ?_
    refine wp_get (v := .ref 1) dX7_count_135 rfl (by decide) rfl in_X7_count_X7 0 (by decide) fl_X7_count_7 rfl rfl ?_
    refine wp_bipush (v := (nI 18)) dX7_count_138 (by decide) ?_
    refine wp_iload_n 1 dX7_count_140 rfl ?_
    refine wp_iadd dX7_count_141 ?_
    refine wp_bipush (v := (nI 8)) dX7_count_142 (by decide) ?_
    refine wp_isub dX7_count_144 ?_
    have hv := hs.1
    have hs := hs.2
    refine wp_iald rfl (by decide) hv dX7_count_145 ?_
    exact wp_ireturn rfl rfl dX7_count_146 (hQ _ _ hs)
  have hs := hs.2 c21
  by_cases c22 : a = nI 10
  · have hs := hs.1 c22
    refine wp_tableIn (off := 133) (tgt := 134) dX7_count_1 (by rw [c22]; decide) (by rw [c22]; decide) (by rw [c22]; decide +kernel) (by decide) ?_
    refine wp_aload_n 0 dX7_count_134 rfl ?_
    refine wp_get (v := .ref 1) dX7_count_135 rfl (by decide) rfl in_X7_count_X7 0 (by decide) fl_X7_count_7 rfl rfl ?_
    refine wp_bipush (v := (nI 18)) dX7_count_138 (by decide) ?_
    refine wp_iload_n 1 dX7_count_140 rfl ?_
    refine wp_iadd dX7_count_141 ?_
    refine wp_bipush (v := (nI 8)) dX7_count_142 (by decide) ?_
    refine wp_isub dX7_count_144 ?_
    have hv := hs.1
    have hs := hs.2
    refine wp_iald rfl (by decide) hv dX7_count_145 ?_
    exact wp_ireturn rfl rfl dX7_count_146 (hQ _ _ hs)
  have hs := hs.2 c22
  by_cases c23 : a = nI 11
  · have hs := hs.1 c23
    refine wp_tableIn (off := 133) (tgt := 134) dX7_count_1 (by rw [c23]; decide) (by rw [c23]; decide) (by rw [c23]; decide +kernel) (by decide) ?_
    refine wp_aload_n 0 dX7_count_134 rfl ?_
    refine wp_get (v := .ref 1) dX7_count_135 rfl (by decide) rfl in_X7_count_X7 0 (by decide) fl_X7_count_7 rfl rfl ?_
    refine wp_bipush (v := (nI 18)) dX7_count_138 (by decide) ?_
    refine wp_iload_n 1 dX7_count_140 rfl ?_
    refine wp_iadd dX7_count_141 ?_
    refine wp_bipush (v := (nI 8)) dX7_count_142 (by decide) ?_
    refine wp_isub dX7_count_144 ?_
    have hv := hs.1
    have hs := hs.2
    refine wp_iald rfl (by decide) hv dX7_count_145 ?_
    exact wp_ireturn rfl rfl dX7_count_146 (hQ _ _ hs)
  have hs := hs.2 c23
  by_cases c24 : a = nI 12
  · have hs := hs.1 c24
    refine wp_tableIn (off := 146) (tgt := 147) dX7_count_1 (by rw [c24]; decide) (by rw [c24]; decide) (by rw [c24]; decide +kernel) (by decide) ?_
    refine wp_aload_n 0 dX7_count_147 rfl ?_
    refine wp_get (v := .int (M 0 2)) dX7_count_148 rfl (by decide) rfl in_X7_count_X7 2 (by decide) fl_X7_count_41 rfl rfl ?_
    exact wp_ireturn rfl rfl dX7_count_151 (hQ _ _ hs)
  have hs := hs.2 c24
  by_cases c25 : a = nI 13
  · have hs := hs.1 c25
    refine wp_tableIn (off := 151) (tgt := 152) dX7_count_1 (by rw [c25]; decide) (by rw [c25]; decide) (by rw [c25]; decide +kernel) (by decide) ?_
    refine wp_aload_n 0 dX7_count_152 rfl ?_
    refine wp_get (v := .int (M 0 6)) dX7_count_153 rfl (by decide) rfl in_X7_count_X7 6 (by decide) fl_X7_count_119 rfl rfl ?_
    exact wp_ireturn rfl rfl dX7_count_156 (hQ _ _ hs)
  have hs := hs.2 c25
  have ac1 : ¬ (a).toInt = 0 := fun h => c1 (Int32.toInt_inj.mp (h.trans (by decide)))
  have ac2 : ¬ (a).toInt = 1 := fun h => c2 (Int32.toInt_inj.mp (h.trans (by decide)))
  have ac5 : ¬ (a).toInt = 2 := fun h => c5 (Int32.toInt_inj.mp (h.trans (by decide)))
  have ac6 : ¬ (a).toInt = 3 := fun h => c6 (Int32.toInt_inj.mp (h.trans (by decide)))
  have ac10 : ¬ (a).toInt = 4 := fun h => c10 (Int32.toInt_inj.mp (h.trans (by decide)))
  have ac13 : ¬ (a).toInt = 5 := fun h => c13 (Int32.toInt_inj.mp (h.trans (by decide)))
  have ac16 : ¬ (a).toInt = 6 := fun h => c16 (Int32.toInt_inj.mp (h.trans (by decide)))
  have ac19 : ¬ (a).toInt = 7 := fun h => c19 (Int32.toInt_inj.mp (h.trans (by decide)))
  have ac20 : ¬ (a).toInt = 8 := fun h => c20 (Int32.toInt_inj.mp (h.trans (by decide)))
  have ac21 : ¬ (a).toInt = 9 := fun h => c21 (Int32.toInt_inj.mp (h.trans (by decide)))
  have ac22 : ¬ (a).toInt = 10 := fun h => c22 (Int32.toInt_inj.mp (h.trans (by decide)))
  have ac23 : ¬ (a).toInt = 11 := fun h => c23 (Int32.toInt_inj.mp (h.trans (by decide)))
  have ac24 : ¬ (a).toInt = 12 := fun h => c24 (Int32.toInt_inj.mp (h.trans (by decide)))
  have ac25 : ¬ (a).toInt = 13 := fun h => c25 (Int32.toInt_inj.mp (h.trans (by decide)))
  refine wp_tableOut (tgt := 157) dX7_count_1 (by omega) (by decide) ?_
  refine wp_sipush (v := (-1002 : Int32)) dX7_count_157 (by decide) ?_
  exact wp_ireturn rfl rfl dX7_count_160 (hQ _ _ hs)
