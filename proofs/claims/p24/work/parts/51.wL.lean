/-! the law's own methods, printed (wip/p24/gen/genl.py) -/
def qJ (N : Nat) (P : Int32 → Mem → Prop) : PST := fun v σ' N' M' => ∃ x, v = some (.int x) ∧ σ' = σC ∧ (N' = N ∨ N' = N + 1) ∧ P x M'
abbrev iL_low : MI := (cL_low, 2, some .int, RL, yL_low, wsL_low)
theorem hy_L_low : yL_low.cls ≠ "java/lang/invoke/MethodHandle" ∧ yL_low.cls ≠ "java/lang/invoke/VarHandle" ∧ (parseMethodDescriptor yL_low.desc).map (fun d => d.parameters.length) = some 2 := by decide +kernel
def w_L_low (a : Int32) (b : Int32) (M : Mem) (Q : Int32 → Mem → Prop) : Prop := (¬ b = 0 ∧ Q ((a &&& (nI 2147483647)) - (a &&& (nI 2147483647)) / b * b) M)
set_option maxHeartbeats 4000000 in
set_option maxRecDepth 100000 in
theorem mw_L_low {E : EN} {σ : Nat → KD} {N : Nat} {a : Int32} {b : Int32} {M : Mem} {Q : Int32 → Mem → Prop} (hs : w_L_low a b M Q) : MW E iL_low 1 0 0 true [.int a, .int b] σ N M (qI σ N Q) := by
  refine mw_intro (ls := [(0, .int a), (1, .int b)]) rfl (by decide +kernel) rfl rfl (Nat.le_of_ble_eq_true rfl) ?_
  have hQ : ∀ x M, Q x M → (qI σ N Q) (some (.int x)) σ N M := fun _ _ h => ⟨_, rfl, rfl, rfl, h⟩
  generalize qI σ N Q = Qf at hQ ⊢
  unfold w_L_low at hs
  refine wp_iload_n 0 dL_low_0 rfl ?_
  refine wp_ldc (v := (nI 2147483647)) (by decide +kernel) dL_low_1 ?_
  refine wp_iand dL_low_3 ?_
  refine wp_iload_n 1 dL_low_4 rfl ?_
  have hne := hs.1
  have hs := hs.2
  refine wp_irem dL_low_5 hne ?_
  exact wp_ireturn rfl rfl dL_low_6 (hQ _ _ hs)
abbrev iL_does : MI := (cL_does, 8, some .int, RL, yL_does, wsL_does)
theorem hy_L_does : yL_does.cls ≠ "java/lang/invoke/MethodHandle" ∧ yL_does.cls ≠ "java/lang/invoke/VarHandle" ∧ (parseMethodDescriptor yL_does.desc).map (fun d => d.parameters.length) = some 2 := by decide +kernel
def w_L_does_248 : Nat → Int32 → Int32 → Int32 → Int32 → Mem → (Int32 → Mem → Prop) → Prop
  | 0, _, _, _, _, _, _ => False
  | n + 1, x1, x5, x6, x7, M, K => ((x6 < x7 → K x7 M) ∧ (¬ x6 < x7 → w_L_low (x1 >>> (x7 &&& 31)) (nI 7) M (fun v81 M82 => w_X6_type ((((nI 49) + v81).toUInt32 % 65536).toInt32) M82 (fr M82 (fun v83 M84 => ∃ K87 : Mem → Prop, (∀ (M86 : Mem), K87 M86 → ∀ y88 : Int32, y88 = x7 + (nI 1) → w_L_does_248 n x1 x5 x6 y88 M86 K) ∧ ((x6 ≤ x7 → K87 M84) ∧ (¬ x6 ≤ x7 → ∃ K92 : Int32 → Mem → Prop, (∀ (b90 : Int32) (M91 : Mem), K92 b90 M91 → w_X6_type b90 M91 (fr M91 (fun v93 M94 => K87 M94))) ∧ ((¬ ((x1 >>> ((x7 + (nI 5)) &&& 31)) &&& (nI 1)) = (nI 1) → K92 (nI 100) M84) ∧ (((x1 >>> ((x7 + (nI 5)) &&& 31)) &&& (nI 1)) = (nI 1) → K92 (nI 117) M84)))))))))
set_option maxHeartbeats 4000000 in
set_option maxRecDepth 100000 in
theorem lp_L_does_248 {E : EN} {N : Nat} {x1 : Int32} {x5 : Int32} {x6 : Int32} {Qf : PST} {K : Int32 → Mem → Prop} (hN : h46 N) (hK : ∀ (z7 : Int32) (M : Mem), K z7 M → WP E iL_does 8 0 0 true 310 [(0, .ref 0), (5, .int x5), (6, .int x6)] [] σC N M Qf) : ∀ (nn : Nat) (x7 : Int32) (M : Mem), w_L_does_248 nn x1 x5 x6 x7 M K → WP E iL_does 8 0 0 true 248 [(0, .ref 0), (1, .int x1), (5, .int x5), (6, .int x6), (7, .int x7)] [] σC N M Qf := by
  intro nn
  induction nn with
  | zero => intro x7 M hs; exact hs.elim
  | succ n ih =>
    intro x7 M hs
    unfold w_L_does_248 at hs
    refine wp_iload 4 dL_does_248 rfl ?_
    refine wp_iload 3 dL_does_250 rfl ?_
    refine wp_icmp_gt (tgt := 310) dL_does_252 (by decide) (fun c80 => ?_) (fun c80 => ?_)
    · have hs := hs.1 c80
      refine wp_sub (ls' := [(0, .ref 0), (5, .int x5), (6, .int x6)]) [0, 2, 3] rfl ?_
      exact hK _ _ hs
    · have hs := hs.2 c80
      refine wp_aload_n 0 dL_does_255 rfl ?_
      refine wp_bipush (v := (nI 49)) dL_does_256 (by decide) ?_
      refine wp_iload_n 1 dL_does_258 rfl ?_
      refine wp_iload 4 dL_does_259 rfl ?_
      refine wp_ishr dL_does_261 ?_
      refine wp_bipush (v := (nI 7)) dL_does_262 (by decide) ?_
      refine wp_cSL (As := [.int (x1 >>> (x7 &&& 31)), .int (nI 7)]) (st := [.int (nI 49), .ref 0]) (mw_L_low hs) gL_does_L_low rfl hy_L_low rfl (by decide) (by decide) (Nat.le_of_ble_eq_true rfl) rfl dL_does_264 (fun v81 M82 hs => ?_)
      refine wp_iadd dL_does_267 ?_
      refine wp_i2c dL_does_268 rfl ?_
      refine wp_cF (As := [.int (((nI 49) + v81).toUInt32 % 65536).toInt32]) (st := []) hN (mw_X6_type hs) gL_does_X6_type rfl hy_X6_type rfl rfl (by decide) (by decide) (Nat.le_of_ble_eq_true rfl) rfl dL_does_269 (fun v83 M84 hs => ?_)
      refine wp_pop rfl dL_does_272 ?_
      refine wp_iload 4 dL_does_273 rfl ?_
      refine wp_iload 3 dL_does_275 rfl ?_
      obtain ⟨K87, kK87, hs⟩ := hs
      have hK87 : ∀ (M86 : Mem), K87 M86 → WP E iL_does 8 0 0 true 304 [(0, .ref 0), (1, .int x1), (5, .int x5), (6, .int x6), (7, .int x7)] [] σC N M86 Qf := by
        intro M86 hs
        have hs := kK87 M86 hs
        obtain ⟨y88, ey88⟩ : ∃ y : Int32, y = x7 + (nI 1) := ⟨_, rfl⟩
        have hs := hs y88 ey88
        refine wp_iinc (v := y88) (ls' := [(0, .ref 0), (1, .int x1), (5, .int x5), (6, .int x6), (7, .int y88)]) 4 [1, 2, 3, 4, 0] dL_does_304 rfl (by rw [ey88]; rfl) rfl (by decide) ?_
        refine wp_goto (tgt := 248) dL_does_307 (by decide) ?_
        refine wp_sub (ls' := [(0, .ref 0), (1, .int x1), (5, .int x5), (6, .int x6), (7, .int y88)]) [0, 1, 2, 3, 4] rfl ?_
        exact ih _ _ hs
      refine wp_icmp_ge (tgt := 304) dL_does_277 (by decide) (fun c85 => ?_) (fun c85 => ?_)
      · have hs := hs.1 c85
        refine wp_sub (ls' := [(0, .ref 0), (1, .int x1), (5, .int x5), (6, .int x6), (7, .int x7)]) [0, 1, 2, 3, 4] rfl ?_
        exact hK87 _ hs
      · have hs := hs.2 c85
        refine wp_aload_n 0 dL_does_280 rfl ?_
        refine wp_iload_n 1 dL_does_281 rfl ?_
        refine wp_iload 4 dL_does_282 rfl ?_
        refine wp_iconst (v := (nI 5)) dL_does_284 (by decide) ?_
        refine wp_iadd dL_does_285 ?_
        refine wp_ishr dL_does_286 ?_
        refine wp_iconst (v := (nI 1)) dL_does_287 (by decide) ?_
        refine wp_iand dL_does_288 ?_
        refine wp_iconst (v := (nI 1)) dL_does_289 (by decide) ?_
        obtain ⟨K92, kK92, hs⟩ := hs
        have hK92 : ∀ (b90 : Int32) (M91 : Mem), K92 b90 M91 → WP E iL_does 8 0 0 true 300 [(0, .ref 0), (1, .int x1), (5, .int x5), (6, .int x6), (7, .int x7)] [.int b90, .ref 0] σC N M91 Qf := by
          intro b90 M91 hs
          have hs := kK92 b90 M91 hs
          refine wp_cF (As := [.int b90]) (st := []) hN (mw_X6_type hs) gL_does_X6_type rfl hy_X6_type rfl rfl (by decide) (by decide) (Nat.le_of_ble_eq_true rfl) rfl dL_does_300 (fun v93 M94 hs => ?_)
          refine wp_pop rfl dL_does_303 ?_
          refine wp_sub (ls' := [(0, .ref 0), (1, .int x1), (5, .int x5), (6, .int x6), (7, .int x7)]) [0, 1, 2, 3, 4] rfl ?_
          exact hK87 _ hs
        refine wp_icmp_ne (tgt := 298) dL_does_290 (by decide) (fun c89 => ?_) (fun c89 => ?_)
        · have hs := hs.1 c89
          refine wp_bipush (v := (nI 100)) dL_does_298 (by decide) ?_
          refine wp_sub (ls' := [(0, .ref 0), (1, .int x1), (5, .int x5), (6, .int x6), (7, .int x7)]) [0, 1, 2, 3, 4] rfl ?_
          exact hK92 _ _ hs
        · have hs := hs.2 c89
          refine wp_bipush (v := (nI 117)) dL_does_293 (by decide) ?_
          refine wp_goto (tgt := 300) dL_does_295 (by decide) ?_
          refine wp_sub (ls' := [(0, .ref 0), (1, .int x1), (5, .int x5), (6, .int x6), (7, .int x7)]) [0, 1, 2, 3, 4] rfl ?_
          exact hK92 _ _ hs
def w_L_does (a : Int32) (M : Mem) (Q : Int32 → Mem → Prop) : Prop := w_X6_count (nI 0) M (fr M (fun v1 M2 => w_L_low (a >>> ((nI 4) &&& 31)) v1 M2 (fun v3 M4 => ∀ y5 : Int32, y5 = (a &&& (nI 15)) → ((y5 = nI 0 → w_L_low (a >>> ((nI 4) &&& 31)) (v1 + (nI 1)) M4 (fun v7 M8 => w_L_low (a >>> ((nI 8) &&& 31)) (nI 9) M8 (fun v9 M10 => w_X6_setLength v7 ((nI 1) + v9) M10 (fr M10 (fun v11 M12 => Q v11 M12))))) ∧ (¬ y5 = nI 0 → ((y5 = nI 1 → w_L_low (a >>> ((nI 4) &&& 31)) (v1 + (nI 1)) M4 (fun v14 M15 => w_L_low (a >>> ((nI 8) &&& 31)) (nI 9) M15 (fun v16 M17 => w_X6_setLength v14 ((nI 1) + v16) M17 (fr M17 (fun v18 M19 => Q v18 M19))))) ∧ (¬ y5 = nI 1 → ((y5 = nI 2 → ∃ K24 : Int32 → Mem → Prop, (∀ (b22 : Int32) (M23 : Mem), K24 b22 M23 → w_X6_setUp v3 b22 M23 (fr M23 (fun v25 M26 => Q v25 M26))) ∧ ((¬ ((a >>> ((nI 8) &&& 31)) &&& (nI 1)) = (nI 1) → K24 (nI 0) M4) ∧ (((a >>> ((nI 8) &&& 31)) &&& (nI 1)) = (nI 1) → K24 (nI 1) M4))) ∧ (¬ y5 = nI 2 → ((y5 = nI 3 → w_L_low (a >>> ((nI 4) &&& 31)) (nI 4) M4 (fun v28 M29 => ∃ K33 : Int32 → Mem → Prop, (∀ (b31 : Int32) (M32 : Mem), K33 b31 M32 → w_X6_set v28 b31 M32 (fr M32 (fun v34 M35 => Q v34 M35))) ∧ ((¬ v28 = 0 → ((¬ v28 = (nI 1) → ∃ K40 : Int32 → Mem → Prop, (∀ (b38 : Int32) (M39 : Mem), K40 b38 M39 → w_L_low (a >>> ((nI 6) &&& 31)) b38 M39 (fun v41 M42 => K33 v41 M42)) ∧ ((¬ v28 = (nI 2) → K40 (nI 10) M29) ∧ (v28 = (nI 2) → K40 (nI 4) M29))) ∧ (v28 = (nI 1) → w_L_low (a >>> ((nI 6) &&& 31)) (nI 4) M29 (fun v43 M44 => K33 v43 M44)))) ∧ (v28 = 0 → w_L_low (a >>> ((nI 6) &&& 31)) (nI 12) M29 (fun v45 M46 => K33 ((nI 1) + v45) M46))))) ∧ (¬ y5 = nI 3 → ((y5 = nI 4 → w_X6_layOver M4 (fr M4 (fun v48 M49 => Q v48 M49))) ∧ (¬ y5 = nI 4 → ((y5 = nI 5 → w_X6_layOver M4 (fr M4 (fun v51 M52 => Q v51 M52))) ∧ (¬ y5 = nI 5 → ((y5 = nI 6 → w_X6_bend v3 M4 (fr M4 (fun v54 M55 => Q v54 M55))) ∧ (¬ y5 = nI 6 → ((y5 = nI 7 → w_X6_bend v3 M4 (fr M4 (fun v57 M58 => Q v57 M58))) ∧ (¬ y5 = nI 7 → ((y5 = nI 8 → w_X6_bend v3 M4 (fr M4 (fun v60 M61 => Q v60 M61))) ∧ (¬ y5 = nI 8 → ((y5 = nI 9 → w_X6_flatten v3 M4 (fr M4 (fun v63 M64 => Q v63 M64))) ∧ (¬ y5 = nI 9 → ((y5 = nI 10 → w_L_low (a >>> ((nI 4) &&& 31)) (nI 3) M4 (fun v66 M67 => w_X6_follow ((nI 1) + v66) M67 (fr M67 (fun v68 M69 => Q v68 M69)))) ∧ (¬ y5 = nI 10 → ((y5 = nI 11 → w_L_low (a >>> ((nI 4) &&& 31)) (nI 3) M4 (fun v71 M72 => w_X6_follow ((nI 1) + v71) M72 (fr M72 (fun v73 M74 => Q v73 M74)))) ∧ (¬ y5 = nI 11 → w_X6_clearText M4 (fr M4 (fun v75 M76 => w_L_low (a >>> ((nI 4) &&& 31)) (nI 5) M76 (fun v77 M78 => ∀ y79 : Int32, y79 = ((nI 1) + v77) → w_L_does_248 FU a v75 y79 (nI 0) M78 (fun y95 M96 => w_X6_takeStrip M96 (fr M96 (fun v97 M98 => ((¬ v97 = y79 → Q (-2000 : Int32) M98) ∧ (v97 = y79 → Q v75 M98)))))))))))))))))))))))))))))))))))
set_option maxHeartbeats 4000000 in
set_option maxRecDepth 100000 in
theorem mw_L_does {E : EN} {N : Nat} {a : Int32} {M : Mem} {Q : Int32 → Mem → Prop} (hN : h46 N) (hs : w_L_does a M Q) : MW E iL_does 8 0 0 true [.ref 0, .int a] σC N M (qI σC N Q) := by
  refine mw_intro (ls := [(0, .ref 0), (1, .int a)]) rfl (by decide +kernel) rfl rfl (Nat.le_of_ble_eq_true rfl) ?_
  have hQ : ∀ x M, Q x M → (qI σC N Q) (some (.int x)) σC N M := fun _ _ h => ⟨_, rfl, rfl, rfl, h⟩
  generalize qI σC N Q = Qf at hQ ⊢
  unfold w_L_does at hs
  refine wp_aload_n 0 dL_does_0 rfl ?_
  refine wp_iconst (v := (nI 0)) dL_does_1 (by decide) ?_
  refine wp_cF (As := [.int (nI 0)]) (st := []) hN (mw_X6_count hs) gL_does_X6_count rfl hy_X6_count rfl rfl (by decide) (by decide) (Nat.le_of_ble_eq_true rfl) rfl dL_does_2 (fun v1 M2 hs => ?_)
  refine wp_istore_n (ls' := [(0, .ref 0), (1, .int a), (2, .int v1)]) [1, 2, 0] dL_does_5 rfl (by decide) ?_
  refine wp_iload_n 1 dL_does_6 rfl ?_
  refine wp_iconst (v := (nI 4)) dL_does_7 (by decide) ?_
  refine wp_ishr dL_does_8 ?_
  refine wp_iload_n 2 dL_does_9 rfl ?_
  refine wp_cSL (As := [.int (a >>> ((nI 4) &&& 31)), .int v1]) (st := []) (mw_L_low hs) gL_does_L_low rfl hy_L_low rfl (by decide) (by decide) (Nat.le_of_ble_eq_true rfl) rfl dL_does_10 (fun v3 M4 hs => ?_)
  refine wp_istore_n (ls' := [(0, .ref 0), (1, .int a), (2, .int v1), (3, .int v3)]) [1, 2, 3, 0] dL_does_13 rfl (by decide) ?_
  refine wp_iload_n 1 dL_does_14 rfl ?_
  refine wp_bipush (v := (nI 15)) dL_does_15 (by decide) ?_
  refine wp_iand dL_does_17 ?_
  refine wp_topi (fun y5 ey5 => ?_)
  have hs := hs y5 ey5
  by_cases c6 : y5 = nI 0
  · have hs := hs.1 c6
    refine wp_tableIn (off := 62) (tgt := 80) dL_does_18 (by rw [c6]; decide) (by rw [c6]; decide) (by rw [c6]; decide +kernel) (by decide) ?_
    refine wp_aload_n 0 dL_does_80 rfl ?_
    refine wp_iload_n 1 dL_does_81 rfl ?_
    refine wp_iconst (v := (nI 4)) dL_does_82 (by decide) ?_
    refine wp_ishr dL_does_83 ?_
    refine wp_iload_n 2 dL_does_84 rfl ?_
    refine wp_iconst (v := (nI 1)) dL_does_85 (by decide) ?_
    refine wp_iadd dL_does_86 ?_
    refine wp_cSL (As := [.int (a >>> ((nI 4) &&& 31)), .int (v1 + (nI 1))]) (st := [.ref 0]) (mw_L_low hs) gL_does_L_low rfl hy_L_low rfl (by decide) (by decide) (Nat.le_of_ble_eq_true rfl) rfl dL_does_87 (fun v7 M8 hs => ?_)
    refine wp_iconst (v := (nI 1)) dL_does_90 (by decide) ?_
    refine wp_iload_n 1 dL_does_91 rfl ?_
    refine wp_bipush (v := (nI 8)) dL_does_92 (by decide) ?_
    refine wp_ishr dL_does_94 ?_
    refine wp_bipush (v := (nI 9)) dL_does_95 (by decide) ?_
    refine wp_cSL (As := [.int (a >>> ((nI 8) &&& 31)), .int (nI 9)]) (st := [.int (nI 1), .int v7, .ref 0]) (mw_L_low hs) gL_does_L_low rfl hy_L_low rfl (by decide) (by decide) (Nat.le_of_ble_eq_true rfl) rfl dL_does_97 (fun v9 M10 hs => ?_)
    refine wp_iadd dL_does_100 ?_
    refine wp_cF (As := [.int v7, .int ((nI 1) + v9)]) (st := []) hN (mw_X6_setLength hs) gL_does_X6_setLength rfl hy_X6_setLength rfl rfl (by decide) (by decide) (Nat.le_of_ble_eq_true rfl) rfl dL_does_101 (fun v11 M12 hs => ?_)
    exact wp_ireturn rfl rfl dL_does_104 (hQ _ _ hs)
  have hs := hs.2 c6
  by_cases c13 : y5 = nI 1
  · have hs := hs.1 c13
    refine wp_tableIn (off := 62) (tgt := 80) dL_does_18 (by rw [c13]; decide) (by rw [c13]; decide) (by rw [c13]; decide +kernel) (by decide) ?_
    refine wp_aload_n 0 dL_does_80 rfl ?_
    refine wp_iload_n 1 dL_does_81 rfl ?_
    refine wp_iconst (v := (nI 4)) dL_does_82 (by decide) ?_
    refine wp_ishr dL_does_83 ?_
    refine wp_iload_n 2 dL_does_84 rfl ?_
    refine wp_iconst (v := (nI 1)) dL_does_85 (by decide) ?_
    refine wp_iadd dL_does_86 ?_
    refine wp_cSL (As := [.int (a >>> ((nI 4) &&& 31)), .int (v1 + (nI 1))]) (st := [.ref 0]) (mw_L_low hs) gL_does_L_low rfl hy_L_low rfl (by decide) (by decide) (Nat.le_of_ble_eq_true rfl) rfl dL_does_87 (fun v14 M15 hs => ?_)
    refine wp_iconst (v := (nI 1)) dL_does_90 (by decide) ?_
    refine wp_iload_n 1 dL_does_91 rfl ?_
    refine wp_bipush (v := (nI 8)) dL_does_92 (by decide) ?_
    refine wp_ishr dL_does_94 ?_
    refine wp_bipush (v := (nI 9)) dL_does_95 (by decide) ?_
    refine wp_cSL (As := [.int (a >>> ((nI 8) &&& 31)), .int (nI 9)]) (st := [.int (nI 1), .int v14, .ref 0]) (mw_L_low hs) gL_does_L_low rfl hy_L_low rfl (by decide) (by decide) (Nat.le_of_ble_eq_true rfl) rfl dL_does_97 (fun v16 M17 hs => ?_)
    refine wp_iadd dL_does_100 ?_
    refine wp_cF (As := [.int v14, .int ((nI 1) + v16)]) (st := []) hN (mw_X6_setLength hs) gL_does_X6_setLength rfl hy_X6_setLength rfl rfl (by decide) (by decide) (Nat.le_of_ble_eq_true rfl) rfl dL_does_101 (fun v18 M19 hs => ?_)
    exact wp_ireturn rfl rfl dL_does_104 (hQ _ _ hs)
  have hs := hs.2 c13
  by_cases c20 : y5 = nI 2
  · have hs := hs.1 c20
    refine wp_tableIn (off := 87) (tgt := 105) dL_does_18 (by rw [c20]; decide) (by rw [c20]; decide) (by rw [c20]; decide +kernel) (by decide) ?_
    refine wp_aload_n 0 dL_does_105 rfl ?_
    refine wp_iload_n 3 dL_does_106 rfl ?_
    refine wp_iload_n 1 dL_does_107 rfl ?_
    refine wp_bipush (v := (nI 8)) dL_does_108 (by decide) ?_
    refine wp_ishr dL_does_110 ?_
    refine wp_iconst (v := (nI 1)) dL_does_111 (by decide) ?_
    refine wp_iand dL_does_112 ?_
    refine wp_iconst (v := (nI 1)) dL_does_113 (by decide) ?_
    obtain ⟨K24, kK24, hs⟩ := hs
    have hK24 : ∀ (b22 : Int32) (M23 : Mem), K24 b22 M23 → WP E iL_does 8 0 0 true 122 [] [.int b22, .int v3, .ref 0] σC N M23 Qf := by
      intro b22 M23 hs
      have hs := kK24 b22 M23 hs
      refine wp_cF (As := [.int v3, .int b22]) (st := []) hN (mw_X6_setUp hs) gL_does_X6_setUp rfl hy_X6_setUp rfl rfl (by decide) (by decide) (Nat.le_of_ble_eq_true rfl) rfl dL_does_122 (fun v25 M26 hs => ?_)
      exact wp_ireturn rfl rfl dL_does_125 (hQ _ _ hs)
    refine wp_icmp_ne (tgt := 121) dL_does_114 (by decide) (fun c21 => ?_) (fun c21 => ?_)
    · have hs := hs.1 c21
      refine wp_iconst (v := (nI 0)) dL_does_121 (by decide) ?_
      refine wp_sub (ls' := []) [] rfl ?_
      exact hK24 _ _ hs
    · have hs := hs.2 c21
      refine wp_iconst (v := (nI 1)) dL_does_117 (by decide) ?_
      refine wp_goto (tgt := 122) dL_does_118 (by decide) ?_
      refine wp_sub (ls' := []) [] rfl ?_
      exact hK24 _ _ hs
  have hs := hs.2 c20
  by_cases c27 : y5 = nI 3
  · have hs := hs.1 c27
    refine wp_tableIn (off := 108) (tgt := 126) dL_does_18 (by rw [c27]; decide) (by rw [c27]; decide) (by rw [c27]; decide +kernel) (by decide) ?_
    refine wp_iload_n 1 dL_does_126 rfl ?_
    refine wp_iconst (v := (nI 4)) dL_does_127 (by decide) ?_
    refine wp_ishr dL_does_128 ?_
    refine wp_iconst (v := (nI 4)) dL_does_129 (by decide) ?_
    refine wp_cSL (As := [.int (a >>> ((nI 4) &&& 31)), .int (nI 4)]) (st := []) (mw_L_low hs) gL_does_L_low rfl hy_L_low rfl (by decide) (by decide) (Nat.le_of_ble_eq_true rfl) rfl dL_does_130 (fun v28 M29 hs => ?_)
    refine wp_istore (ls' := [(0, .ref 0), (1, .int a), (2, .int v1), (3, .int v3), (4, .int v28)]) [1, 2, 3, 4, 0] dL_does_133 rfl (by decide) ?_
    refine wp_aload_n 0 dL_does_135 rfl ?_
    refine wp_iload 4 dL_does_136 rfl ?_
    refine wp_iload 4 dL_does_138 rfl ?_
    obtain ⟨K33, kK33, hs⟩ := hs
    have hK33 : ∀ (b31 : Int32) (M32 : Mem), K33 b31 M32 → WP E iL_does 8 0 0 true 193 [] [.int b31, .int v28, .ref 0] σC N M32 Qf := by
      intro b31 M32 hs
      have hs := kK33 b31 M32 hs
      refine wp_cF (As := [.int v28, .int b31]) (st := []) hN (mw_X6_set hs) gL_does_X6_set rfl hy_X6_set rfl rfl (by decide) (by decide) (Nat.le_of_ble_eq_true rfl) rfl dL_does_193 (fun v34 M35 hs => ?_)
      exact wp_ireturn rfl rfl dL_does_196 (hQ _ _ hs)
    refine wp_if_ne (tgt := 157) dL_does_140 (by decide) (fun c30 => ?_) (fun c30 => ?_)
    · have hs := hs.1 c30
      refine wp_iload 4 dL_does_157 rfl ?_
      refine wp_iconst (v := (nI 1)) dL_does_159 (by decide) ?_
      refine wp_icmp_ne (tgt := 174) dL_does_160 (by decide) (fun c36 => ?_) (fun c36 => ?_)
      · have hs := hs.1 c36
        refine wp_iload_n 1 dL_does_174 rfl ?_
        refine wp_bipush (v := (nI 6)) dL_does_175 (by decide) ?_
        refine wp_ishr dL_does_177 ?_
        refine wp_iload 4 dL_does_178 rfl ?_
        refine wp_iconst (v := (nI 2)) dL_does_180 (by decide) ?_
        obtain ⟨K40, kK40, hs⟩ := hs
        have hK40 : ∀ (b38 : Int32) (M39 : Mem), K40 b38 M39 → WP E iL_does 8 0 0 true 190 [] [.int b38, .int (a >>> ((nI 6) &&& 31)), .int v28, .ref 0] σC N M39 Qf := by
          intro b38 M39 hs
          have hs := kK40 b38 M39 hs
          refine wp_cSL (As := [.int (a >>> ((nI 6) &&& 31)), .int b38]) (st := [.int v28, .ref 0]) (mw_L_low hs) gL_does_L_low rfl hy_L_low rfl (by decide) (by decide) (Nat.le_of_ble_eq_true rfl) rfl dL_does_190 (fun v41 M42 hs => ?_)
          refine wp_sub (ls' := []) [] rfl ?_
          exact hK33 _ _ hs
        refine wp_icmp_ne (tgt := 188) dL_does_181 (by decide) (fun c37 => ?_) (fun c37 => ?_)
        · have hs := hs.1 c37
          refine wp_bipush (v := (nI 10)) dL_does_188 (by decide) ?_
          refine wp_sub (ls' := []) [] rfl ?_
          exact hK40 _ _ hs
        · have hs := hs.2 c37
          refine wp_iconst (v := (nI 4)) dL_does_184 (by decide) ?_
          refine wp_goto (tgt := 190) dL_does_185 (by decide) ?_
          refine wp_sub (ls' := []) [] rfl ?_
          exact hK40 _ _ hs
      · have hs := hs.2 c36
        refine wp_iload_n 1 dL_does_163 rfl ?_
        refine wp_bipush (v := (nI 6)) dL_does_164 (by decide) ?_
        refine wp_ishr dL_does_166 ?_
        refine wp_iconst (v := (nI 4)) dL_does_167 (by decide) ?_
        refine wp_cSL (As := [.int (a >>> ((nI 6) &&& 31)), .int (nI 4)]) (st := [.int v28, .ref 0]) (mw_L_low hs) gL_does_L_low rfl hy_L_low rfl (by decide) (by decide) (Nat.le_of_ble_eq_true rfl) rfl dL_does_168 (fun v43 M44 hs => ?_)
        refine wp_goto (tgt := 193) dL_does_171 (by decide) ?_
        refine wp_sub (ls' := []) [] rfl ?_
        exact hK33 _ _ hs
    · have hs := hs.2 c30
      refine wp_iconst (v := (nI 1)) dL_does_143 (by decide) ?_
      refine wp_iload_n 1 dL_does_144 rfl ?_
      refine wp_bipush (v := (nI 6)) dL_does_145 (by decide) ?_
      refine wp_ishr dL_does_147 ?_
      refine wp_bipush (v := (nI 12)) dL_does_148 (by decide) ?_
      refine wp_cSL (As := [.int (a >>> ((nI 6) &&& 31)), .int (nI 12)]) (st := [.int (nI 1), .int v28, .ref 0]) (mw_L_low hs) gL_does_L_low rfl hy_L_low rfl (by decide) (by decide) (Nat.le_of_ble_eq_true rfl) rfl dL_does_150 (fun v45 M46 hs => ?_)
      refine wp_iadd dL_does_153 ?_
      refine wp_goto (tgt := 193) dL_does_154 (by decide) ?_
      refine wp_sub (ls' := []) [] rfl ?_
      exact hK33 _ _ hs
  have hs := hs.2 c27
  by_cases c47 : y5 = nI 4
  · have hs := hs.1 c47
    refine wp_tableIn (off := 179) (tgt := 197) dL_does_18 (by rw [c47]; decide) (by rw [c47]; decide) (by rw [c47]; decide +kernel) (by decide) ?_
    refine wp_aload_n 0 dL_does_197 rfl ?_
    refine wp_cF (As := []) (st := []) hN (mw_X6_layOver hs) gL_does_X6_layOver rfl hy_X6_layOver rfl rfl (by decide) (by decide) (Nat.le_of_ble_eq_true rfl) rfl dL_does_198 (fun v48 M49 hs => ?_)
    exact wp_ireturn rfl rfl dL_does_201 (hQ _ _ hs)
  have hs := hs.2 c47
  by_cases c50 : y5 = nI 5
  · have hs := hs.1 c50
    refine wp_tableIn (off := 179) (tgt := 197) dL_does_18 (by rw [c50]; decide) (by rw [c50]; decide) (by rw [c50]; decide +kernel) (by decide) ?_
    refine wp_aload_n 0 dL_does_197 rfl ?_
    refine wp_cF (As := []) (st := []) hN (mw_X6_layOver hs) gL_does_X6_layOver rfl hy_X6_layOver rfl rfl (by decide) (by decide) (Nat.le_of_ble_eq_true rfl) rfl dL_does_198 (fun v51 M52 hs => ?_)
    exact wp_ireturn rfl rfl dL_does_201 (hQ _ _ hs)
  have hs := hs.2 c50
  by_cases c53 : y5 = nI 6
  · have hs := hs.1 c53
    refine wp_tableIn (off := 184) (tgt := 202) dL_does_18 (by rw [c53]; decide) (by rw [c53]; decide) (by rw [c53]; decide +kernel) (by decide) ?_
    refine wp_aload_n 0 dL_does_202 rfl ?_
    refine wp_iload_n 3 dL_does_203 rfl ?_
    refine wp_cF (As := [.int v3]) (st := []) hN (mw_X6_bend hs) gL_does_X6_bend rfl hy_X6_bend rfl rfl (by decide) (by decide) (Nat.le_of_ble_eq_true rfl) rfl dL_does_204 (fun v54 M55 hs => ?_)
    exact wp_ireturn rfl rfl dL_does_207 (hQ _ _ hs)
  have hs := hs.2 c53
  by_cases c56 : y5 = nI 7
  · have hs := hs.1 c56
    refine wp_tableIn (off := 184) (tgt := 202) dL_does_18 (by rw [c56]; decide) (by rw [c56]; decide) (by rw [c56]; decide +kernel) (by decide) ?_
    refine wp_aload_n 0 dL_does_202 rfl ?_
    refine wp_iload_n 3 dL_does_203 rfl ?_
    refine wp_cF (As := [.int v3]) (st := []) hN (mw_X6_bend hs) gL_does_X6_bend rfl hy_X6_bend rfl rfl (by decide) (by decide) (Nat.le_of_ble_eq_true rfl) rfl dL_does_204 (fun v57 M58 hs => ?_)
    exact wp_ireturn rfl rfl dL_does_207 (hQ _ _ hs)
  have hs := hs.2 c56
  by_cases c59 : y5 = nI 8
  · have hs := hs.1 c59
    refine wp_tableIn (off := 184) (tgt := 202) dL_does_18 (by rw [c59]; decide) (by rw [c59]; decide) (by rw [c59]; decide +kernel) (by decide) ?_
    refine wp_aload_n 0 dL_does_202 rfl ?_
    refine wp_iload_n 3 dL_does_203 rfl ?_
    refine wp_cF (As := [.int v3]) (st := []) hN (mw_X6_bend hs) gL_does_X6_bend rfl hy_X6_bend rfl rfl (by decide) (by decide) (Nat.le_of_ble_eq_true rfl) rfl dL_does_204 (fun v60 M61 hs => ?_)
    exact wp_ireturn rfl rfl dL_does_207 (hQ _ _ hs)
  have hs := hs.2 c59
  by_cases c62 : y5 = nI 9
  · have hs := hs.1 c62
    refine wp_tableIn (off := 190) (tgt := 208) dL_does_18 (by rw [c62]; decide) (by rw [c62]; decide) (by rw [c62]; decide +kernel) (by decide) ?_
    refine wp_aload_n 0 dL_does_208 rfl ?_
    refine wp_iload_n 3 dL_does_209 rfl ?_
    refine wp_cF (As := [.int v3]) (st := []) hN (mw_X6_flatten hs) gL_does_X6_flatten rfl hy_X6_flatten rfl rfl (by decide) (by decide) (Nat.le_of_ble_eq_true rfl) rfl dL_does_210 (fun v63 M64 hs => ?_)
    exact wp_ireturn rfl rfl dL_does_213 (hQ _ _ hs)
  have hs := hs.2 c62
  by_cases c65 : y5 = nI 10
  · have hs := hs.1 c65
    refine wp_tableIn (off := 196) (tgt := 214) dL_does_18 (by rw [c65]; decide) (by rw [c65]; decide) (by rw [c65]; decide +kernel) (by decide) ?_
    refine wp_aload_n 0 dL_does_214 rfl ?_
    refine wp_iconst (v := (nI 1)) dL_does_215 (by decide) ?_
    refine wp_iload_n 1 dL_does_216 rfl ?_
    refine wp_iconst (v := (nI 4)) dL_does_217 (by decide) ?_
    refine wp_ishr dL_does_218 ?_
    refine wp_iconst (v := (nI 3)) dL_does_219 (by decide) ?_
    refine wp_cSL (As := [.int (a >>> ((nI 4) &&& 31)), .int (nI 3)]) (st := [.int (nI 1), .ref 0]) (mw_L_low hs) gL_does_L_low rfl hy_L_low rfl (by decide) (by decide) (Nat.le_of_ble_eq_true rfl) rfl dL_does_220 (fun v66 M67 hs => ?_)
    refine wp_iadd dL_does_223 ?_
    refine wp_cF (As := [.int ((nI 1) + v66)]) (st := []) hN (mw_X6_follow hs) gL_does_X6_follow rfl hy_X6_follow rfl rfl (by decide) (by decide) (Nat.le_of_ble_eq_true rfl) rfl dL_does_224 (fun v68 M69 hs => ?_)
    exact wp_ireturn rfl rfl dL_does_227 (hQ _ _ hs)
  have hs := hs.2 c65
  by_cases c70 : y5 = nI 11
  · have hs := hs.1 c70
    refine wp_tableIn (off := 196) (tgt := 214) dL_does_18 (by rw [c70]; decide) (by rw [c70]; decide) (by rw [c70]; decide +kernel) (by decide) ?_
    refine wp_aload_n 0 dL_does_214 rfl ?_
    refine wp_iconst (v := (nI 1)) dL_does_215 (by decide) ?_
    refine wp_iload_n 1 dL_does_216 rfl ?_
    refine wp_iconst (v := (nI 4)) dL_does_217 (by decide) ?_
    refine wp_ishr dL_does_218 ?_
    refine wp_iconst (v := (nI 3)) dL_does_219 (by decide) ?_
    refine wp_cSL (As := [.int (a >>> ((nI 4) &&& 31)), .int (nI 3)]) (st := [.int (nI 1), .ref 0]) (mw_L_low hs) gL_does_L_low rfl hy_L_low rfl (by decide) (by decide) (Nat.le_of_ble_eq_true rfl) rfl dL_does_220 (fun v71 M72 hs => ?_)
    refine wp_iadd dL_does_223 ?_
    refine wp_cF (As := [.int ((nI 1) + v71)]) (st := []) hN (mw_X6_follow hs) gL_does_X6_follow rfl hy_X6_follow rfl rfl (by decide) (by decide) (Nat.le_of_ble_eq_true rfl) rfl dL_does_224 (fun v73 M74 hs => ?_)
    exact wp_ireturn rfl rfl dL_does_227 (hQ _ _ hs)
  have hs := hs.2 c70
  have ac6 : ¬ (y5).toInt = 0 := fun h => c6 (Int32.toInt_inj.mp (h.trans (by decide)))
  have ac13 : ¬ (y5).toInt = 1 := fun h => c13 (Int32.toInt_inj.mp (h.trans (by decide)))
  have ac20 : ¬ (y5).toInt = 2 := fun h => c20 (Int32.toInt_inj.mp (h.trans (by decide)))
  have ac27 : ¬ (y5).toInt = 3 := fun h => c27 (Int32.toInt_inj.mp (h.trans (by decide)))
  have ac47 : ¬ (y5).toInt = 4 := fun h => c47 (Int32.toInt_inj.mp (h.trans (by decide)))
  have ac50 : ¬ (y5).toInt = 5 := fun h => c50 (Int32.toInt_inj.mp (h.trans (by decide)))
  have ac53 : ¬ (y5).toInt = 6 := fun h => c53 (Int32.toInt_inj.mp (h.trans (by decide)))
  have ac56 : ¬ (y5).toInt = 7 := fun h => c56 (Int32.toInt_inj.mp (h.trans (by decide)))
  have ac59 : ¬ (y5).toInt = 8 := fun h => c59 (Int32.toInt_inj.mp (h.trans (by decide)))
  have ac62 : ¬ (y5).toInt = 9 := fun h => c62 (Int32.toInt_inj.mp (h.trans (by decide)))
  have ac65 : ¬ (y5).toInt = 10 := fun h => c65 (Int32.toInt_inj.mp (h.trans (by decide)))
  have ac70 : ¬ (y5).toInt = 11 := fun h => c70 (Int32.toInt_inj.mp (h.trans (by decide)))
  refine wp_tableOut (tgt := 228) dL_does_18 (by omega) (by decide) ?_
  refine wp_aload_n 0 dL_does_228 rfl ?_
  refine wp_cF (As := []) (st := []) hN (mw_X6_clearText hs) gL_does_X6_clearText rfl hy_X6_clearText rfl rfl (by decide) (by decide) (Nat.le_of_ble_eq_true rfl) rfl dL_does_229 (fun v75 M76 hs => ?_)
  refine wp_istore (ls' := [(0, .ref 0), (1, .int a), (2, .int v1), (3, .int v3), (5, .int v75)]) [1, 2, 3, 4, 0] dL_does_232 rfl (by decide) ?_
  refine wp_iconst (v := (nI 1)) dL_does_234 (by decide) ?_
  refine wp_iload_n 1 dL_does_235 rfl ?_
  refine wp_iconst (v := (nI 4)) dL_does_236 (by decide) ?_
  refine wp_ishr dL_does_237 ?_
  refine wp_iconst (v := (nI 5)) dL_does_238 (by decide) ?_
  refine wp_cSL (As := [.int (a >>> ((nI 4) &&& 31)), .int (nI 5)]) (st := [.int (nI 1)]) (mw_L_low hs) gL_does_L_low rfl hy_L_low rfl (by decide) (by decide) (Nat.le_of_ble_eq_true rfl) rfl dL_does_239 (fun v77 M78 hs => ?_)
  refine wp_iadd dL_does_242 ?_
  refine wp_topi (fun y79 ey79 => ?_)
  have hs := hs y79 ey79
  refine wp_istore (ls' := [(0, .ref 0), (1, .int a), (2, .int v1), (3, .int v3), (5, .int v75), (6, .int y79)]) [1, 2, 3, 4, 5, 0] dL_does_243 rfl (by decide) ?_
  refine wp_iconst (v := (nI 0)) dL_does_245 (by decide) ?_
  refine wp_istore (ls' := [(0, .ref 0), (1, .int a), (2, .int v1), (3, .int v3), (5, .int v75), (6, .int y79), (7, .int (nI 0))]) [1, 2, 3, 4, 5, 6, 0] dL_does_246 rfl (by decide) ?_
  refine wp_sub (ls' := [(0, .ref 0), (1, .int a), (5, .int v75), (6, .int y79), (7, .int (nI 0))]) [0, 1, 4, 5, 6] rfl ?_
  refine lp_L_does_248 hN (K := fun y95 M96 => w_X6_takeStrip M96 (fr M96 (fun v97 M98 => ((¬ v97 = y79 → Q (-2000 : Int32) M98) ∧ (v97 = y79 → Q v75 M98))))) (fun y95 M96 hs => ?_) FU _ _ hs
  refine wp_aload_n 0 dL_does_310 rfl ?_
  refine wp_cF (As := []) (st := []) hN (mw_X6_takeStrip hs) gL_does_X6_takeStrip rfl hy_X6_takeStrip rfl rfl (by decide) (by decide) (Nat.le_of_ble_eq_true rfl) rfl dL_does_311 (fun v97 M98 hs => ?_)
  refine wp_iload 2 dL_does_314 rfl ?_
  refine wp_icmp_ne (tgt := 324) dL_does_316 (by decide) (fun c99 => ?_) (fun c99 => ?_)
  · have hs := hs.1 c99
    refine wp_sipush (v := (-2000 : Int32)) dL_does_324 (by decide) ?_
    exact wp_ireturn rfl rfl dL_does_327 (hQ _ _ hs)
  · have hs := hs.2 c99
    refine wp_iload 1 dL_does_319 rfl ?_
    refine wp_goto (tgt := 327) dL_does_321 (by decide) ?_
    exact wp_ireturn rfl rfl dL_does_327 (hQ _ _ hs)
abbrev iL_areBendsSo : MI := (cL_areBendsSo, 11, some .boolean, RL, yL_areBendsSo, wsL_areBendsSo)
theorem hy_L_areBendsSo : yL_areBendsSo.cls ≠ "java/lang/invoke/MethodHandle" ∧ yL_areBendsSo.cls ≠ "java/lang/invoke/VarHandle" ∧ (parseMethodDescriptor yL_areBendsSo.desc).map (fun d => d.parameters.length) = some 1 := by decide +kernel
def w_L_areBendsSo_40 : Nat → Int32 → Int32 → Int32 → Int32 → Int32 → Mem → (Int32 → Int32 → Int32 → Int32 → Int32 → Mem → Prop) → Prop
  | 0, _, _, _, _, _, _, _ => False
  | n + 1, x1, x2, x3, x4, x5, M, K => w_X6_count (nI 0) M (fr M (fun v13 M14 => ((v13 ≤ x5 → K x1 x2 x3 x4 x5 M14) ∧ (¬ v13 ≤ x5 → w_X6_ofBend x5 (nI 2) M14 (fr M14 (fun v16 M17 => w_X6_ofBend x5 (nI 4) M17 (fr M17 (fun v18 M19 => w_X6_count (nI 11) M19 (fr M19 (fun v20 M21 => w_X6_lengthOf (x5 + (nI 1)) M21 (fr M21 (fun v22 M23 => ∀ y24 : Int32, y24 = ((v20 - v22) + (nI 1)) → w_X6_ofBend x5 (nI 1) M23 (fr M23 (fun v25 M26 => ∃ K30 : Int32 → Mem → Prop, (∀ (b28 : Int32) (M29 : Mem), K30 b28 M29 → w_X6_ofBend x5 (nI 0) M29 (fr M29 (fun v31 M32 => ∃ K36 : Int32 → Mem → Prop, (∀ (b34 : Int32) (M35 : Mem), K36 b34 M35 → w_X6_count (nI 2) M35 (fr M35 (fun v37 M38 => ∃ K42 : Int32 → Mem → Prop, (∀ (b40 : Int32) (M41 : Mem), K42 b40 M41 → ∃ K46 : Int32 → Mem → Prop, (∀ (b44 : Int32) (M45 : Mem), K46 b44 M45 → ∃ K50 : Int32 → Mem → Prop, (∀ (b48 : Int32) (M49 : Mem), K50 b48 M49 → ∀ y51 : Int32, y51 = (x1 + b48) → ∃ K55 : Int32 → Mem → Prop, (∀ (b53 : Int32) (M54 : Mem), K55 b53 M54 → ∀ y56 : Int32, y56 = (x2 ||| b53) → w_X6_lengthOf x5 M54 (fr M54 (fun v57 M58 => ∀ y59 : Int32, y59 = (x3 + v57) → ∃ K63 : Int32 → Mem → Prop, (∀ (b61 : Int32) (M62 : Mem), K63 b61 M62 → ∃ K67 : Int32 → Mem → Prop, (∀ (b65 : Int32) (M66 : Mem), K67 b65 M66 → ∀ y68 : Int32, y68 = x5 + (nI 1) → w_L_areBendsSo_40 n y51 y56 y59 b65 y68 M66 K) ∧ ((b61 = 0 → K67 (nI 0) M62) ∧ (¬ b61 = 0 → w_X6_end x5 x5 (nI 1) M62 (fr M62 (fun v69 M70 => ((¬ v69 = 0 → K67 (nI 0) M70) ∧ (v69 = 0 → w_X6_end x5 x5 (nI 0) M70 (fr M70 (fun v72 M73 => w_X6_lengthOf x5 M73 (fr M73 (fun v74 M75 => ((¬ v72 = (-v74) → K67 (nI 0) M75) ∧ (v72 = (-v74) → w_X6_end x5 (x5 + (nI 1)) (nI 1) M75 (fr M75 (fun v77 M78 => ((¬ v77 = 0 → K67 (nI 0) M78) ∧ (v77 = 0 → w_X6_end x5 (x5 + (nI 1)) (nI 0) M78 (fr M78 (fun v80 M81 => w_X6_lengthOf (x5 + (nI 1)) M81 (fr M81 (fun v82 M83 => ((¬ v80 = v82 → K67 (nI 0) M83) ∧ (v80 = v82 → K67 (nI 1) M83))))))))))))))))))))))) ∧ ((x4 = 0 → K63 (nI 0) M58) ∧ (¬ x4 = 0 → ∃ K88 : Int32 → Mem → Prop, (∀ (b86 : Int32) (M87 : Mem), K88 b86 M87 → ((¬ b28 = b86 → K63 (nI 0) M87) ∧ (b28 = b86 → ∃ K93 : Int32 → Mem → Prop, (∀ (b91 : Int32) (M92 : Mem), K93 b91 M92 → ((¬ b28 = b91 → K63 (nI 0) M92) ∧ (b28 = b91 → ∃ K97 : Mem → Prop, (∀ (M96 : Mem), K97 M96 → ((v16 < 0 → K63 (nI 0) M96) ∧ (¬ v16 < 0 → (((nI 7) ≤ v16 → K63 (nI 0) M96) ∧ (¬ (nI 7) ≤ v16 → ∃ K102 : Mem → Prop, (∀ (M101 : Mem), K102 M101 → ∃ K105 : Mem → Prop, (∀ (M104 : Mem), K105 M104 → w_X6_ofBend x5 (nI 3) M104 (fr M104 (fun v106 M107 => ∃ K111 : Int32 → Mem → Prop, (∀ (b109 : Int32) (M110 : Mem), K111 b109 M110 → ((¬ v106 = ((nI 90) + b109) → K63 (nI 0) M110) ∧ (v106 = ((nI 90) + b109) → K63 (nI 1) M110))) ∧ ((y24 ≤ 0 → K111 (nI 0) M107) ∧ (¬ y24 ≤ 0 → K111 y24 M107))))) ∧ ((¬ v16 = (nI 4) → K105 M101) ∧ (v16 = (nI 4) → w_X6_strikers x5 M101 (fr M101 (fun v113 M114 => ((v113 ≤ 0 → K63 (nI 0) M114) ∧ (¬ v113 ≤ 0 → K105 M114))))))) ∧ ((¬ v16 = 0 → K102 M96) ∧ (v16 = 0 → w_X6_strikers x5 M96 (fr M96 (fun v116 M117 => ((¬ v116 = 0 → K63 (nI 0) M117) ∧ (v116 = 0 → K102 M117))))))))))) ∧ ((¬ b28 = 0 → K97 M92) ∧ (b28 = 0 → ((b44 = 0 → ((¬ v16 = (nI 2) → K63 (nI 0) M92) ∧ (v16 = (nI 2) → ((v18 = (nI 2) → K63 (nI 0) M92) ∧ (¬ v18 = (nI 2) → K97 M92))))) ∧ (¬ b44 = 0 → ((v16 = (nI 2) → K63 (nI 0) M92) ∧ (¬ v16 = (nI 2) → ((¬ v18 = (nI 2) → K63 (nI 0) M92) ∧ (v18 = (nI 2) → K97 M92))))))))))) ∧ ((¬ v18 = (nI 1) → K93 (nI 0) M87) ∧ (v18 = (nI 1) → K93 (nI 1) M87))))) ∧ ((¬ v16 = (nI 1) → K88 (nI 0) M58) ∧ (v16 = (nI 1) → K88 (nI 1) M58))))))) ∧ ((¬ v16 = 0 → K55 (nI 0) M49) ∧ (v16 = 0 → K55 ((nI 1) <<< (x5 &&& 31)) M49))) ∧ ((b28 = 0 → K50 (nI 0) M45) ∧ (¬ b28 = 0 → K50 (nI 1) M45))) ∧ ((¬ b34 = b40 → K46 (nI 0) M41) ∧ (b34 = b40 → K46 (nI 1) M41))) ∧ ((¬ v37 = 0 → K42 (nI 0) M38) ∧ (v37 = 0 → K42 (nI 1) M38))))) ∧ ((¬ v31 = (nI 1) → K36 (nI 0) M32) ∧ (v31 = (nI 1) → K36 (nI 1) M32))))) ∧ ((¬ v25 = (nI 1) → K30 (nI 0) M26) ∧ (v25 = (nI 1) → K30 (nI 1) M26))))))))))))))))
set_option maxHeartbeats 4000000 in
set_option maxRecDepth 100000 in
theorem lp_L_areBendsSo_40 {E : EN} {N : Nat} {Qf : PST} {K : Int32 → Int32 → Int32 → Int32 → Int32 → Mem → Prop} (hN : h46 N) (hK : ∀ (z1 : Int32) (z2 : Int32) (z3 : Int32) (z4 : Int32) (z5 : Int32) (M : Mem), K z1 z2 z3 z4 z5 M → WP E iL_areBendsSo 8 0 0 true 413 [(0, .ref 0), (1, .int z1), (2, .int z2), (3, .int z3), (4, .int z4)] [] σC N M Qf) : ∀ (nn : Nat) (x1 : Int32) (x2 : Int32) (x3 : Int32) (x4 : Int32) (x5 : Int32) (M : Mem), w_L_areBendsSo_40 nn x1 x2 x3 x4 x5 M K → WP E iL_areBendsSo 8 0 0 true 40 [(0, .ref 0), (1, .int x1), (2, .int x2), (3, .int x3), (4, .int x4), (5, .int x5)] [] σC N M Qf := by
  intro nn
  induction nn with
  | zero => intro x1 x2 x3 x4 x5 M hs; exact hs.elim
  | succ n ih =>
    intro x1 x2 x3 x4 x5 M hs
    unfold w_L_areBendsSo_40 at hs
    refine wp_iload 5 dL_areBendsSo_40 rfl ?_
    refine wp_aload_n 0 dL_areBendsSo_42 rfl ?_
    refine wp_iconst (v := (nI 0)) dL_areBendsSo_43 (by decide) ?_
    refine wp_cF (As := [.int (nI 0)]) (st := [.int x5]) hN (mw_X6_count hs) gL_areBendsSo_X6_count rfl hy_X6_count rfl rfl (by decide) (by decide) (Nat.le_of_ble_eq_true rfl) rfl dL_areBendsSo_44 (fun v13 M14 hs => ?_)
    refine wp_icmp_ge (tgt := 413) dL_areBendsSo_47 (by decide) (fun c15 => ?_) (fun c15 => ?_)
    · have hs := hs.1 c15
      refine wp_sub (ls' := [(0, .ref 0), (1, .int x1), (2, .int x2), (3, .int x3), (4, .int x4)]) [0, 1, 2, 3, 4] rfl ?_
      exact hK _ _ _ _ _ _ hs
    · have hs := hs.2 c15
      refine wp_aload_n 0 dL_areBendsSo_50 rfl ?_
      refine wp_iload 5 dL_areBendsSo_51 rfl ?_
      refine wp_iconst (v := (nI 2)) dL_areBendsSo_53 (by decide) ?_
      refine wp_cF (As := [.int x5, .int (nI 2)]) (st := []) hN (mw_X6_ofBend hs) gL_areBendsSo_X6_ofBend rfl hy_X6_ofBend rfl rfl (by decide) (by decide) (Nat.le_of_ble_eq_true rfl) rfl dL_areBendsSo_54 (fun v16 M17 hs => ?_)
      refine wp_istore (ls' := [(0, .ref 0), (1, .int x1), (2, .int x2), (3, .int x3), (4, .int x4), (5, .int x5), (6, .int v16)]) [1, 2, 3, 4, 5, 6, 0] dL_areBendsSo_57 rfl (by decide) ?_
      refine wp_aload_n 0 dL_areBendsSo_59 rfl ?_
      refine wp_iload 5 dL_areBendsSo_60 rfl ?_
      refine wp_iconst (v := (nI 4)) dL_areBendsSo_62 (by decide) ?_
      refine wp_cF (As := [.int x5, .int (nI 4)]) (st := []) hN (mw_X6_ofBend hs) gL_areBendsSo_X6_ofBend rfl hy_X6_ofBend rfl rfl (by decide) (by decide) (Nat.le_of_ble_eq_true rfl) rfl dL_areBendsSo_63 (fun v18 M19 hs => ?_)
      refine wp_istore (ls' := [(0, .ref 0), (1, .int x1), (2, .int x2), (3, .int x3), (4, .int x4), (5, .int x5), (6, .int v16), (7, .int v18)]) [1, 2, 3, 4, 5, 6, 7, 0] dL_areBendsSo_66 rfl (by decide) ?_
      refine wp_aload_n 0 dL_areBendsSo_68 rfl ?_
      refine wp_bipush (v := (nI 11)) dL_areBendsSo_69 (by decide) ?_
      refine wp_cF (As := [.int (nI 11)]) (st := []) hN (mw_X6_count hs) gL_areBendsSo_X6_count rfl hy_X6_count rfl rfl (by decide) (by decide) (Nat.le_of_ble_eq_true rfl) rfl dL_areBendsSo_71 (fun v20 M21 hs => ?_)
      refine wp_aload_n 0 dL_areBendsSo_74 rfl ?_
      refine wp_iload 5 dL_areBendsSo_75 rfl ?_
      refine wp_iconst (v := (nI 1)) dL_areBendsSo_77 (by decide) ?_
      refine wp_iadd dL_areBendsSo_78 ?_
      refine wp_cF (As := [.int (x5 + (nI 1))]) (st := [.int v20]) hN (mw_X6_lengthOf hs) gL_areBendsSo_X6_lengthOf rfl hy_X6_lengthOf rfl rfl (by decide) (by decide) (Nat.le_of_ble_eq_true rfl) rfl dL_areBendsSo_79 (fun v22 M23 hs => ?_)
      refine wp_isub dL_areBendsSo_82 ?_
      refine wp_iconst (v := (nI 1)) dL_areBendsSo_83 (by decide) ?_
      refine wp_iadd dL_areBendsSo_84 ?_
      refine wp_topi (fun y24 ey24 => ?_)
      have hs := hs y24 ey24
      refine wp_istore (ls' := [(0, .ref 0), (1, .int x1), (2, .int x2), (3, .int x3), (4, .int x4), (5, .int x5), (6, .int v16), (7, .int v18), (8, .int y24)]) [1, 2, 3, 4, 5, 6, 7, 8, 0] dL_areBendsSo_85 rfl (by decide) ?_
      refine wp_aload_n 0 dL_areBendsSo_87 rfl ?_
      refine wp_iload 5 dL_areBendsSo_88 rfl ?_
      refine wp_iconst (v := (nI 1)) dL_areBendsSo_90 (by decide) ?_
      refine wp_cF (As := [.int x5, .int (nI 1)]) (st := []) hN (mw_X6_ofBend hs) gL_areBendsSo_X6_ofBend rfl hy_X6_ofBend rfl rfl (by decide) (by decide) (Nat.le_of_ble_eq_true rfl) rfl dL_areBendsSo_91 (fun v25 M26 hs => ?_)
      refine wp_iconst (v := (nI 1)) dL_areBendsSo_94 (by decide) ?_
      obtain ⟨K30, kK30, hs⟩ := hs
      have hK30 : ∀ (b28 : Int32) (M29 : Mem), K30 b28 M29 → WP E iL_areBendsSo 8 0 0 true 103 [(0, .ref 0), (1, .int x1), (2, .int x2), (3, .int x3), (4, .int x4), (5, .int x5), (6, .int v16), (7, .int v18), (8, .int y24)] [.int b28] σC N M29 Qf := by
        intro b28 M29 hs
        have hs := kK30 b28 M29 hs
        refine wp_istore (ls' := [(0, .ref 0), (1, .int x1), (2, .int x2), (3, .int x3), (4, .int x4), (5, .int x5), (6, .int v16), (7, .int v18), (8, .int y24), (9, .int b28)]) [1, 2, 3, 4, 5, 6, 7, 8, 9, 0] dL_areBendsSo_103 rfl (by decide) ?_
        refine wp_aload_n 0 dL_areBendsSo_105 rfl ?_
        refine wp_iload 5 dL_areBendsSo_106 rfl ?_
        refine wp_iconst (v := (nI 0)) dL_areBendsSo_108 (by decide) ?_
        refine wp_cF (As := [.int x5, .int (nI 0)]) (st := []) hN (mw_X6_ofBend hs) gL_areBendsSo_X6_ofBend rfl hy_X6_ofBend rfl rfl (by decide) (by decide) (Nat.le_of_ble_eq_true rfl) rfl dL_areBendsSo_109 (fun v31 M32 hs => ?_)
        refine wp_iconst (v := (nI 1)) dL_areBendsSo_112 (by decide) ?_
        obtain ⟨K36, kK36, hs⟩ := hs
        have hK36 : ∀ (b34 : Int32) (M35 : Mem), K36 b34 M35 → WP E iL_areBendsSo 8 0 0 true 121 [(0, .ref 0), (1, .int x1), (2, .int x2), (3, .int x3), (4, .int x4), (5, .int x5), (6, .int v16), (7, .int v18), (8, .int y24), (9, .int b28)] [.int b34] σC N M35 Qf := by
          intro b34 M35 hs
          have hs := kK36 b34 M35 hs
          refine wp_aload_n 0 dL_areBendsSo_121 rfl ?_
          refine wp_iconst (v := (nI 2)) dL_areBendsSo_122 (by decide) ?_
          refine wp_cF (As := [.int (nI 2)]) (st := [.int b34]) hN (mw_X6_count hs) gL_areBendsSo_X6_count rfl hy_X6_count rfl rfl (by decide) (by decide) (Nat.le_of_ble_eq_true rfl) rfl dL_areBendsSo_123 (fun v37 M38 hs => ?_)
          obtain ⟨K42, kK42, hs⟩ := hs
          have hK42 : ∀ (b40 : Int32) (M41 : Mem), K42 b40 M41 → WP E iL_areBendsSo 8 0 0 true 134 [(0, .ref 0), (1, .int x1), (2, .int x2), (3, .int x3), (4, .int x4), (5, .int x5), (6, .int v16), (7, .int v18), (8, .int y24), (9, .int b28)] [.int b40, .int b34] σC N M41 Qf := by
            intro b40 M41 hs
            have hs := kK42 b40 M41 hs
            obtain ⟨K46, kK46, hs⟩ := hs
            have hK46 : ∀ (b44 : Int32) (M45 : Mem), K46 b44 M45 → WP E iL_areBendsSo 8 0 0 true 142 [(0, .ref 0), (1, .int x1), (2, .int x2), (3, .int x3), (4, .int x4), (5, .int x5), (6, .int v16), (7, .int v18), (8, .int y24), (9, .int b28)] [.int b44] σC N M45 Qf := by
              intro b44 M45 hs
              have hs := kK46 b44 M45 hs
              refine wp_istore (ls' := [(0, .ref 0), (1, .int x1), (2, .int x2), (3, .int x3), (4, .int x4), (5, .int x5), (6, .int v16), (7, .int v18), (8, .int y24), (9, .int b28), (10, .int b44)]) [1, 2, 3, 4, 5, 6, 7, 8, 9, 10, 0] dL_areBendsSo_142 rfl (by decide) ?_
              refine wp_iload_n 1 dL_areBendsSo_144 rfl ?_
              refine wp_iload 9 dL_areBendsSo_145 rfl ?_
              obtain ⟨K50, kK50, hs⟩ := hs
              have hK50 : ∀ (b48 : Int32) (M49 : Mem), K50 b48 M49 → WP E iL_areBendsSo 8 0 0 true 155 [(0, .ref 0), (2, .int x2), (3, .int x3), (4, .int x4), (5, .int x5), (6, .int v16), (7, .int v18), (8, .int y24), (9, .int b28), (10, .int b44)] [.int b48, .int x1] σC N M49 Qf := by
                intro b48 M49 hs
                have hs := kK50 b48 M49 hs
                refine wp_iadd dL_areBendsSo_155 ?_
                refine wp_topi (fun y51 ey51 => ?_)
                have hs := hs y51 ey51
                refine wp_istore_n (ls' := [(0, .ref 0), (1, .int y51), (2, .int x2), (3, .int x3), (4, .int x4), (5, .int x5), (6, .int v16), (7, .int v18), (8, .int y24), (9, .int b28), (10, .int b44)]) [1, 0, 2, 3, 4, 5, 6, 7, 8, 9, 10] dL_areBendsSo_156 rfl (by decide) ?_
                refine wp_iload_n 2 dL_areBendsSo_157 rfl ?_
                refine wp_iload 6 dL_areBendsSo_158 rfl ?_
                obtain ⟨K55, kK55, hs⟩ := hs
                have hK55 : ∀ (b53 : Int32) (M54 : Mem), K55 b53 M54 → WP E iL_areBendsSo 8 0 0 true 171 [(0, .ref 0), (1, .int y51), (3, .int x3), (4, .int x4), (5, .int x5), (6, .int v16), (7, .int v18), (8, .int y24), (9, .int b28), (10, .int b44)] [.int b53, .int x2] σC N M54 Qf := by
                  intro b53 M54 hs
                  have hs := kK55 b53 M54 hs
                  refine wp_ior dL_areBendsSo_171 ?_
                  refine wp_topi (fun y56 ey56 => ?_)
                  have hs := hs y56 ey56
                  refine wp_istore_n (ls' := [(0, .ref 0), (1, .int y51), (2, .int y56), (3, .int x3), (4, .int x4), (5, .int x5), (6, .int v16), (7, .int v18), (8, .int y24), (9, .int b28), (10, .int b44)]) [1, 2, 0, 3, 4, 5, 6, 7, 8, 9, 10] dL_areBendsSo_172 rfl (by decide) ?_
                  refine wp_iload_n 3 dL_areBendsSo_173 rfl ?_
                  refine wp_aload_n 0 dL_areBendsSo_174 rfl ?_
                  refine wp_iload 5 dL_areBendsSo_175 rfl ?_
                  refine wp_cF (As := [.int x5]) (st := [.int x3]) hN (mw_X6_lengthOf hs) gL_areBendsSo_X6_lengthOf rfl hy_X6_lengthOf rfl rfl (by decide) (by decide) (Nat.le_of_ble_eq_true rfl) rfl dL_areBendsSo_177 (fun v57 M58 hs => ?_)
                  refine wp_iadd dL_areBendsSo_180 ?_
                  refine wp_topi (fun y59 ey59 => ?_)
                  have hs := hs y59 ey59
                  refine wp_istore_n (ls' := [(0, .ref 0), (1, .int y51), (2, .int y56), (3, .int y59), (4, .int x4), (5, .int x5), (6, .int v16), (7, .int v18), (8, .int y24), (9, .int b28), (10, .int b44)]) [1, 2, 3, 0, 4, 5, 6, 7, 8, 9, 10] dL_areBendsSo_181 rfl (by decide) ?_
                  refine wp_iload 4 dL_areBendsSo_182 rfl ?_
                  obtain ⟨K63, kK63, hs⟩ := hs
                  have hK63 : ∀ (b61 : Int32) (M62 : Mem), K63 b61 M62 → WP E iL_areBendsSo 8 0 0 true 326 [(0, .ref 0), (1, .int y51), (2, .int y56), (3, .int y59), (5, .int x5)] [.int b61] σC N M62 Qf := by
                    intro b61 M62 hs
                    have hs := kK63 b61 M62 hs
                    refine wp_istore (ls' := [(0, .ref 0), (1, .int y51), (2, .int y56), (3, .int y59), (4, .int b61), (5, .int x5)]) [1, 2, 3, 4, 0, 5] dL_areBendsSo_326 rfl (by decide) ?_
                    refine wp_iload 4 dL_areBendsSo_328 rfl ?_
                    obtain ⟨K67, kK67, hs⟩ := hs
                    have hK67 : ∀ (b65 : Int32) (M66 : Mem), K67 b65 M66 → WP E iL_areBendsSo 8 0 0 true 405 [(0, .ref 0), (1, .int y51), (2, .int y56), (3, .int y59), (5, .int x5)] [.int b65] σC N M66 Qf := by
                      intro b65 M66 hs
                      have hs := kK67 b65 M66 hs
                      refine wp_istore (ls' := [(0, .ref 0), (1, .int y51), (2, .int y56), (3, .int y59), (4, .int b65), (5, .int x5)]) [1, 2, 3, 4, 0, 5] dL_areBendsSo_405 rfl (by decide) ?_
                      obtain ⟨y68, ey68⟩ : ∃ y : Int32, y = x5 + (nI 1) := ⟨_, rfl⟩
                      have hs := hs y68 ey68
                      refine wp_iinc (v := y68) (ls' := [(0, .ref 0), (1, .int y51), (2, .int y56), (3, .int y59), (4, .int b65), (5, .int y68)]) 5 [1, 2, 3, 4, 5, 0] dL_areBendsSo_407 rfl (by rw [ey68]; rfl) rfl (by decide) ?_
                      refine wp_goto (tgt := 40) dL_areBendsSo_410 (by decide) ?_
                      refine wp_sub (ls' := [(0, .ref 0), (1, .int y51), (2, .int y56), (3, .int y59), (4, .int b65), (5, .int y68)]) [0, 1, 2, 3, 4, 5] rfl ?_
                      exact ih _ _ _ _ _ _ hs
                    refine wp_if_eq (tgt := 404) dL_areBendsSo_330 (by decide) (fun c64 => ?_) (fun c64 => ?_)
                    · have hs := hs.1 c64
                      refine wp_iconst (v := (nI 0)) dL_areBendsSo_404 (by decide) ?_
                      refine wp_sub (ls' := [(0, .ref 0), (1, .int y51), (2, .int y56), (3, .int y59), (5, .int x5)]) [0, 1, 2, 3, 5] rfl ?_
                      exact hK67 _ _ hs
                    · have hs := hs.2 c64
                      refine wp_aload_n 0 dL_areBendsSo_333 rfl ?_
                      refine wp_iload 5 dL_areBendsSo_334 rfl ?_
                      refine wp_iload 5 dL_areBendsSo_336 rfl ?_
                      refine wp_iconst (v := (nI 1)) dL_areBendsSo_338 (by decide) ?_
                      refine wp_cF (As := [.int x5, .int x5, .int (nI 1)]) (st := []) hN (mw_X6_end hs) gL_areBendsSo_X6_end rfl hy_X6_end rfl rfl (by decide) (by decide) (Nat.le_of_ble_eq_true rfl) rfl dL_areBendsSo_339 (fun v69 M70 hs => ?_)
                      refine wp_if_ne (tgt := 404) dL_areBendsSo_342 (by decide) (fun c71 => ?_) (fun c71 => ?_)
                      · have hs := hs.1 c71
                        refine wp_iconst (v := (nI 0)) dL_areBendsSo_404 (by decide) ?_
                        refine wp_sub (ls' := [(0, .ref 0), (1, .int y51), (2, .int y56), (3, .int y59), (5, .int x5)]) [0, 1, 2, 3, 5] rfl ?_
                        exact hK67 _ _ hs
                      · have hs := hs.2 c71
                        refine wp_aload_n 0 dL_areBendsSo_345 rfl ?_
                        refine wp_iload 5 dL_areBendsSo_346 rfl ?_
                        refine wp_iload 5 dL_areBendsSo_348 rfl ?_
                        refine wp_iconst (v := (nI 0)) dL_areBendsSo_350 (by decide) ?_
                        refine wp_cF (As := [.int x5, .int x5, .int (nI 0)]) (st := []) hN (mw_X6_end hs) gL_areBendsSo_X6_end rfl hy_X6_end rfl rfl (by decide) (by decide) (Nat.le_of_ble_eq_true rfl) rfl dL_areBendsSo_351 (fun v72 M73 hs => ?_)
                        refine wp_aload_n 0 dL_areBendsSo_354 rfl ?_
                        refine wp_iload 5 dL_areBendsSo_355 rfl ?_
                        refine wp_cF (As := [.int x5]) (st := [.int v72]) hN (mw_X6_lengthOf hs) gL_areBendsSo_X6_lengthOf rfl hy_X6_lengthOf rfl rfl (by decide) (by decide) (Nat.le_of_ble_eq_true rfl) rfl dL_areBendsSo_357 (fun v74 M75 hs => ?_)
                        refine wp_ineg dL_areBendsSo_360 ?_
                        refine wp_icmp_ne (tgt := 404) dL_areBendsSo_361 (by decide) (fun c76 => ?_) (fun c76 => ?_)
                        · have hs := hs.1 c76
                          refine wp_iconst (v := (nI 0)) dL_areBendsSo_404 (by decide) ?_
                          refine wp_sub (ls' := [(0, .ref 0), (1, .int y51), (2, .int y56), (3, .int y59), (5, .int x5)]) [0, 1, 2, 3, 5] rfl ?_
                          exact hK67 _ _ hs
                        · have hs := hs.2 c76
                          refine wp_aload_n 0 dL_areBendsSo_364 rfl ?_
                          refine wp_iload 5 dL_areBendsSo_365 rfl ?_
                          refine wp_iload 5 dL_areBendsSo_367 rfl ?_
                          refine wp_iconst (v := (nI 1)) dL_areBendsSo_369 (by decide) ?_
                          refine wp_iadd dL_areBendsSo_370 ?_
                          refine wp_iconst (v := (nI 1)) dL_areBendsSo_371 (by decide) ?_
                          refine wp_cF (As := [.int x5, .int (x5 + (nI 1)), .int (nI 1)]) (st := []) hN (mw_X6_end hs) gL_areBendsSo_X6_end rfl hy_X6_end rfl rfl (by decide) (by decide) (Nat.le_of_ble_eq_true rfl) rfl dL_areBendsSo_372 (fun v77 M78 hs => ?_)
                          refine wp_if_ne (tgt := 404) dL_areBendsSo_375 (by decide) (fun c79 => ?_) (fun c79 => ?_)
                          · have hs := hs.1 c79
                            refine wp_iconst (v := (nI 0)) dL_areBendsSo_404 (by decide) ?_
                            refine wp_sub (ls' := [(0, .ref 0), (1, .int y51), (2, .int y56), (3, .int y59), (5, .int x5)]) [0, 1, 2, 3, 5] rfl ?_
                            exact hK67 _ _ hs
                          · have hs := hs.2 c79
                            refine wp_aload_n 0 dL_areBendsSo_378 rfl ?_
                            refine wp_iload 5 dL_areBendsSo_379 rfl ?_
                            refine wp_iload 5 dL_areBendsSo_381 rfl ?_
                            refine wp_iconst (v := (nI 1)) dL_areBendsSo_383 (by decide) ?_
                            refine wp_iadd dL_areBendsSo_384 ?_
                            refine wp_iconst (v := (nI 0)) dL_areBendsSo_385 (by decide) ?_
                            refine wp_cF (As := [.int x5, .int (x5 + (nI 1)), .int (nI 0)]) (st := []) hN (mw_X6_end hs) gL_areBendsSo_X6_end rfl hy_X6_end rfl rfl (by decide) (by decide) (Nat.le_of_ble_eq_true rfl) rfl dL_areBendsSo_386 (fun v80 M81 hs => ?_)
                            refine wp_aload_n 0 dL_areBendsSo_389 rfl ?_
                            refine wp_iload 5 dL_areBendsSo_390 rfl ?_
                            refine wp_iconst (v := (nI 1)) dL_areBendsSo_392 (by decide) ?_
                            refine wp_iadd dL_areBendsSo_393 ?_
                            refine wp_cF (As := [.int (x5 + (nI 1))]) (st := [.int v80]) hN (mw_X6_lengthOf hs) gL_areBendsSo_X6_lengthOf rfl hy_X6_lengthOf rfl rfl (by decide) (by decide) (Nat.le_of_ble_eq_true rfl) rfl dL_areBendsSo_394 (fun v82 M83 hs => ?_)
                            refine wp_icmp_ne (tgt := 404) dL_areBendsSo_397 (by decide) (fun c84 => ?_) (fun c84 => ?_)
                            · have hs := hs.1 c84
                              refine wp_iconst (v := (nI 0)) dL_areBendsSo_404 (by decide) ?_
                              refine wp_sub (ls' := [(0, .ref 0), (1, .int y51), (2, .int y56), (3, .int y59), (5, .int x5)]) [0, 1, 2, 3, 5] rfl ?_
                              exact hK67 _ _ hs
                            · have hs := hs.2 c84
                              refine wp_iconst (v := (nI 1)) dL_areBendsSo_400 (by decide) ?_
                              refine wp_goto (tgt := 405) dL_areBendsSo_401 (by decide) ?_
                              refine wp_sub (ls' := [(0, .ref 0), (1, .int y51), (2, .int y56), (3, .int y59), (5, .int x5)]) [0, 1, 2, 3, 5] rfl ?_
                              exact hK67 _ _ hs
                  refine wp_if_eq (tgt := 325) dL_areBendsSo_184 (by decide) (fun c60 => ?_) (fun c60 => ?_)
                  · have hs := hs.1 c60
                    refine wp_iconst (v := (nI 0)) dL_areBendsSo_325 (by decide) ?_
                    refine wp_sub (ls' := [(0, .ref 0), (1, .int y51), (2, .int y56), (3, .int y59), (5, .int x5)]) [0, 1, 2, 3, 5] rfl ?_
                    exact hK63 _ _ hs
                  · have hs := hs.2 c60
                    refine wp_iload 9 dL_areBendsSo_187 rfl ?_
                    refine wp_iload 6 dL_areBendsSo_189 rfl ?_
                    refine wp_iconst (v := (nI 1)) dL_areBendsSo_191 (by decide) ?_
                    obtain ⟨K88, kK88, hs⟩ := hs
                    have hK88 : ∀ (b86 : Int32) (M87 : Mem), K88 b86 M87 → WP E iL_areBendsSo 8 0 0 true 200 [(0, .ref 0), (1, .int y51), (2, .int y56), (3, .int y59), (5, .int x5), (6, .int v16), (7, .int v18), (8, .int y24), (9, .int b28), (10, .int b44)] [.int b86, .int b28] σC N M87 Qf := by
                      intro b86 M87 hs
                      have hs := kK88 b86 M87 hs
                      refine wp_icmp_ne (tgt := 325) dL_areBendsSo_200 (by decide) (fun c89 => ?_) (fun c89 => ?_)
                      · have hs := hs.1 c89
                        refine wp_iconst (v := (nI 0)) dL_areBendsSo_325 (by decide) ?_
                        refine wp_sub (ls' := [(0, .ref 0), (1, .int y51), (2, .int y56), (3, .int y59), (5, .int x5)]) [0, 1, 2, 3, 4] rfl ?_
                        exact hK63 _ _ hs
                      · have hs := hs.2 c89
                        refine wp_iload 8 dL_areBendsSo_203 rfl ?_
                        refine wp_iload 6 dL_areBendsSo_205 rfl ?_
                        refine wp_iconst (v := (nI 1)) dL_areBendsSo_207 (by decide) ?_
                        obtain ⟨K93, kK93, hs⟩ := hs
                        have hK93 : ∀ (b91 : Int32) (M92 : Mem), K93 b91 M92 → WP E iL_areBendsSo 8 0 0 true 216 [(0, .ref 0), (1, .int y51), (2, .int y56), (3, .int y59), (5, .int x5), (6, .int v16), (7, .int v18), (8, .int y24), (9, .int b28), (10, .int b44)] [.int b91, .int b28] σC N M92 Qf := by
                          intro b91 M92 hs
                          have hs := kK93 b91 M92 hs
                          refine wp_icmp_ne (tgt := 325) dL_areBendsSo_216 (by decide) (fun c94 => ?_) (fun c94 => ?_)
                          · have hs := hs.1 c94
                            refine wp_iconst (v := (nI 0)) dL_areBendsSo_325 (by decide) ?_
                            refine wp_sub (ls' := [(0, .ref 0), (1, .int y51), (2, .int y56), (3, .int y59), (5, .int x5)]) [0, 1, 2, 3, 4] rfl ?_
                            exact hK63 _ _ hs
                          · have hs := hs.2 c94
                            refine wp_iload 8 dL_areBendsSo_219 rfl ?_
                            obtain ⟨K97, kK97, hs⟩ := hs
                            have hK97 : ∀ (M96 : Mem), K97 M96 → WP E iL_areBendsSo 8 0 0 true 256 [(0, .ref 0), (1, .int y51), (2, .int y56), (3, .int y59), (5, .int x5), (6, .int v16), (8, .int y24)] [] σC N M96 Qf := by
                              intro M96 hs
                              have hs := kK97 M96 hs
                              refine wp_iload 5 dL_areBendsSo_256 rfl ?_
                              refine wp_if_lt (tgt := 325) dL_areBendsSo_258 (by decide) (fun c98 => ?_) (fun c98 => ?_)
                              · have hs := hs.1 c98
                                refine wp_iconst (v := (nI 0)) dL_areBendsSo_325 (by decide) ?_
                                refine wp_sub (ls' := [(0, .ref 0), (1, .int y51), (2, .int y56), (3, .int y59), (5, .int x5)]) [0, 1, 2, 3, 4] rfl ?_
                                exact hK63 _ _ hs
                              · have hs := hs.2 c98
                                refine wp_iload 5 dL_areBendsSo_261 rfl ?_
                                refine wp_bipush (v := (nI 7)) dL_areBendsSo_263 (by decide) ?_
                                refine wp_icmp_ge (tgt := 325) dL_areBendsSo_265 (by decide) (fun c99 => ?_) (fun c99 => ?_)
                                · have hs := hs.1 c99
                                  refine wp_iconst (v := (nI 0)) dL_areBendsSo_325 (by decide) ?_
                                  refine wp_sub (ls' := [(0, .ref 0), (1, .int y51), (2, .int y56), (3, .int y59), (5, .int x5)]) [0, 1, 2, 3, 4] rfl ?_
                                  exact hK63 _ _ hs
                                · have hs := hs.2 c99
                                  refine wp_iload 5 dL_areBendsSo_268 rfl ?_
                                  obtain ⟨K102, kK102, hs⟩ := hs
                                  have hK102 : ∀ (M101 : Mem), K102 M101 → WP E iL_areBendsSo 8 0 0 true 282 [(0, .ref 0), (1, .int y51), (2, .int y56), (3, .int y59), (5, .int x5), (6, .int v16), (8, .int y24)] [] σC N M101 Qf := by
                                    intro M101 hs
                                    have hs := kK102 M101 hs
                                    refine wp_iload 5 dL_areBendsSo_282 rfl ?_
                                    refine wp_iconst (v := (nI 4)) dL_areBendsSo_284 (by decide) ?_
                                    obtain ⟨K105, kK105, hs⟩ := hs
                                    have hK105 : ∀ (M104 : Mem), K105 M104 → WP E iL_areBendsSo 8 0 0 true 297 [(0, .ref 0), (1, .int y51), (2, .int y56), (3, .int y59), (5, .int x5), (8, .int y24)] [] σC N M104 Qf := by
                                      intro M104 hs
                                      have hs := kK105 M104 hs
                                      refine wp_aload_n 0 dL_areBendsSo_297 rfl ?_
                                      refine wp_iload 4 dL_areBendsSo_298 rfl ?_
                                      refine wp_iconst (v := (nI 3)) dL_areBendsSo_300 (by decide) ?_
                                      refine wp_cF (As := [.int x5, .int (nI 3)]) (st := []) hN (mw_X6_ofBend hs) gL_areBendsSo_X6_ofBend rfl hy_X6_ofBend rfl rfl (by decide) (by decide) (Nat.le_of_ble_eq_true rfl) rfl dL_areBendsSo_301 (fun v106 M107 hs => ?_)
                                      refine wp_bipush (v := (nI 90)) dL_areBendsSo_304 (by decide) ?_
                                      refine wp_iload 5 dL_areBendsSo_306 rfl ?_
                                      obtain ⟨K111, kK111, hs⟩ := hs
                                      have hK111 : ∀ (b109 : Int32) (M110 : Mem), K111 b109 M110 → WP E iL_areBendsSo 8 0 0 true 317 [(0, .ref 0), (1, .int y51), (2, .int y56), (3, .int y59), (5, .int x5)] [.int b109, .int (nI 90), .int v106] σC N M110 Qf := by
                                        intro b109 M110 hs
                                        have hs := kK111 b109 M110 hs
                                        refine wp_iadd dL_areBendsSo_317 ?_
                                        refine wp_icmp_ne (tgt := 325) dL_areBendsSo_318 (by decide) (fun c112 => ?_) (fun c112 => ?_)
                                        · have hs := hs.1 c112
                                          refine wp_iconst (v := (nI 0)) dL_areBendsSo_325 (by decide) ?_
                                          refine wp_sub (ls' := [(0, .ref 0), (1, .int y51), (2, .int y56), (3, .int y59), (5, .int x5)]) [0, 1, 2, 3, 4] rfl ?_
                                          exact hK63 _ _ hs
                                        · have hs := hs.2 c112
                                          refine wp_iconst (v := (nI 1)) dL_areBendsSo_321 (by decide) ?_
                                          refine wp_goto (tgt := 326) dL_areBendsSo_322 (by decide) ?_
                                          refine wp_sub (ls' := [(0, .ref 0), (1, .int y51), (2, .int y56), (3, .int y59), (5, .int x5)]) [0, 1, 2, 3, 4] rfl ?_
                                          exact hK63 _ _ hs
                                      refine wp_if_le (tgt := 316) dL_areBendsSo_308 (by decide) (fun c108 => ?_) (fun c108 => ?_)
                                      · have hs := hs.1 c108
                                        refine wp_iconst (v := (nI 0)) dL_areBendsSo_316 (by decide) ?_
                                        refine wp_sub (ls' := [(0, .ref 0), (1, .int y51), (2, .int y56), (3, .int y59), (5, .int x5)]) [0, 1, 2, 3, 4] rfl ?_
                                        exact hK111 _ _ hs
                                      · have hs := hs.2 c108
                                        refine wp_iload 5 dL_areBendsSo_311 rfl ?_
                                        refine wp_goto (tgt := 317) dL_areBendsSo_313 (by decide) ?_
                                        refine wp_sub (ls' := [(0, .ref 0), (1, .int y51), (2, .int y56), (3, .int y59), (5, .int x5)]) [0, 1, 2, 3, 4] rfl ?_
                                        exact hK111 _ _ hs
                                    refine wp_icmp_ne (tgt := 297) dL_areBendsSo_285 (by decide) (fun c103 => ?_) (fun c103 => ?_)
                                    · have hs := hs.1 c103
                                      refine wp_sub (ls' := [(0, .ref 0), (1, .int y51), (2, .int y56), (3, .int y59), (5, .int x5), (8, .int y24)]) [0, 1, 2, 3, 4, 6] rfl ?_
                                      exact hK105 _ hs
                                    · have hs := hs.2 c103
                                      refine wp_aload_n 0 dL_areBendsSo_288 rfl ?_
                                      refine wp_iload 4 dL_areBendsSo_289 rfl ?_
                                      refine wp_cF (As := [.int x5]) (st := []) hN (mw_X6_strikers hs) gL_areBendsSo_X6_strikers rfl hy_X6_strikers rfl rfl (by decide) (by decide) (Nat.le_of_ble_eq_true rfl) rfl dL_areBendsSo_291 (fun v113 M114 hs => ?_)
                                      refine wp_if_le (tgt := 325) dL_areBendsSo_294 (by decide) (fun c115 => ?_) (fun c115 => ?_)
                                      · have hs := hs.1 c115
                                        refine wp_iconst (v := (nI 0)) dL_areBendsSo_325 (by decide) ?_
                                        refine wp_sub (ls' := [(0, .ref 0), (1, .int y51), (2, .int y56), (3, .int y59), (5, .int x5)]) [0, 1, 2, 3, 4] rfl ?_
                                        exact hK63 _ _ hs
                                      · have hs := hs.2 c115
                                        refine wp_sub (ls' := [(0, .ref 0), (1, .int y51), (2, .int y56), (3, .int y59), (5, .int x5), (8, .int y24)]) [0, 1, 2, 3, 4, 6] rfl ?_
                                        exact hK105 _ hs
                                  refine wp_if_ne (tgt := 282) dL_areBendsSo_270 (by decide) (fun c100 => ?_) (fun c100 => ?_)
                                  · have hs := hs.1 c100
                                    refine wp_sub (ls' := [(0, .ref 0), (1, .int y51), (2, .int y56), (3, .int y59), (5, .int x5), (6, .int v16), (8, .int y24)]) [0, 1, 2, 3, 4, 5, 6] rfl ?_
                                    exact hK102 _ hs
                                  · have hs := hs.2 c100
                                    refine wp_aload_n 0 dL_areBendsSo_273 rfl ?_
                                    refine wp_iload 4 dL_areBendsSo_274 rfl ?_
                                    refine wp_cF (As := [.int x5]) (st := []) hN (mw_X6_strikers hs) gL_areBendsSo_X6_strikers rfl hy_X6_strikers rfl rfl (by decide) (by decide) (Nat.le_of_ble_eq_true rfl) rfl dL_areBendsSo_276 (fun v116 M117 hs => ?_)
                                    refine wp_if_ne (tgt := 325) dL_areBendsSo_279 (by decide) (fun c118 => ?_) (fun c118 => ?_)
                                    · have hs := hs.1 c118
                                      refine wp_iconst (v := (nI 0)) dL_areBendsSo_325 (by decide) ?_
                                      refine wp_sub (ls' := [(0, .ref 0), (1, .int y51), (2, .int y56), (3, .int y59), (5, .int x5)]) [0, 1, 2, 3, 4] rfl ?_
                                      exact hK63 _ _ hs
                                    · have hs := hs.2 c118
                                      refine wp_sub (ls' := [(0, .ref 0), (1, .int y51), (2, .int y56), (3, .int y59), (5, .int x5), (6, .int v16), (8, .int y24)]) [0, 1, 2, 3, 4, 5, 6] rfl ?_
                                      exact hK102 _ hs
                            refine wp_if_ne (tgt := 256) dL_areBendsSo_221 (by decide) (fun c95 => ?_) (fun c95 => ?_)
                            · have hs := hs.1 c95
                              refine wp_sub (ls' := [(0, .ref 0), (1, .int y51), (2, .int y56), (3, .int y59), (5, .int x5), (6, .int v16), (8, .int y24)]) [0, 1, 2, 3, 4, 5, 7] rfl ?_
                              exact hK97 _ hs
                            · have hs := hs.2 c95
                              refine wp_iload 9 dL_areBendsSo_224 rfl ?_
                              refine wp_if_eq (tgt := 244) dL_areBendsSo_226 (by decide) (fun c119 => ?_) (fun c119 => ?_)
                              · have hs := hs.1 c119
                                refine wp_iload 5 dL_areBendsSo_244 rfl ?_
                                refine wp_iconst (v := (nI 2)) dL_areBendsSo_246 (by decide) ?_
                                refine wp_icmp_ne (tgt := 325) dL_areBendsSo_247 (by decide) (fun c120 => ?_) (fun c120 => ?_)
                                · have hs := hs.1 c120
                                  refine wp_iconst (v := (nI 0)) dL_areBendsSo_325 (by decide) ?_
                                  refine wp_sub (ls' := [(0, .ref 0), (1, .int y51), (2, .int y56), (3, .int y59), (5, .int x5)]) [0, 1, 2, 3, 4] rfl ?_
                                  exact hK63 _ _ hs
                                · have hs := hs.2 c120
                                  refine wp_iload 6 dL_areBendsSo_250 rfl ?_
                                  refine wp_iconst (v := (nI 2)) dL_areBendsSo_252 (by decide) ?_
                                  refine wp_icmp_eq (tgt := 325) dL_areBendsSo_253 (by decide) (fun c121 => ?_) (fun c121 => ?_)
                                  · have hs := hs.1 c121
                                    refine wp_iconst (v := (nI 0)) dL_areBendsSo_325 (by decide) ?_
                                    refine wp_sub (ls' := [(0, .ref 0), (1, .int y51), (2, .int y56), (3, .int y59), (5, .int x5)]) [0, 1, 2, 3, 4] rfl ?_
                                    exact hK63 _ _ hs
                                  · have hs := hs.2 c121
                                    refine wp_sub (ls' := [(0, .ref 0), (1, .int y51), (2, .int y56), (3, .int y59), (5, .int x5), (6, .int v16), (8, .int y24)]) [0, 1, 2, 3, 4, 5, 7] rfl ?_
                                    exact hK97 _ hs
                              · have hs := hs.2 c119
                                refine wp_iload 5 dL_areBendsSo_229 rfl ?_
                                refine wp_iconst (v := (nI 2)) dL_areBendsSo_231 (by decide) ?_
                                refine wp_icmp_eq (tgt := 325) dL_areBendsSo_232 (by decide) (fun c122 => ?_) (fun c122 => ?_)
                                · have hs := hs.1 c122
                                  refine wp_iconst (v := (nI 0)) dL_areBendsSo_325 (by decide) ?_
                                  refine wp_sub (ls' := [(0, .ref 0), (1, .int y51), (2, .int y56), (3, .int y59), (5, .int x5)]) [0, 1, 2, 3, 4] rfl ?_
                                  exact hK63 _ _ hs
                                · have hs := hs.2 c122
                                  refine wp_iload 6 dL_areBendsSo_235 rfl ?_
                                  refine wp_iconst (v := (nI 2)) dL_areBendsSo_237 (by decide) ?_
                                  refine wp_icmp_ne (tgt := 325) dL_areBendsSo_238 (by decide) (fun c123 => ?_) (fun c123 => ?_)
                                  · have hs := hs.1 c123
                                    refine wp_iconst (v := (nI 0)) dL_areBendsSo_325 (by decide) ?_
                                    refine wp_sub (ls' := [(0, .ref 0), (1, .int y51), (2, .int y56), (3, .int y59), (5, .int x5)]) [0, 1, 2, 3, 4] rfl ?_
                                    exact hK63 _ _ hs
                                  · have hs := hs.2 c123
                                    refine wp_goto (tgt := 256) dL_areBendsSo_241 (by decide) ?_
                                    refine wp_sub (ls' := [(0, .ref 0), (1, .int y51), (2, .int y56), (3, .int y59), (5, .int x5), (6, .int v16), (8, .int y24)]) [0, 1, 2, 3, 4, 5, 7] rfl ?_
                                    exact hK97 _ hs
                        refine wp_icmp_ne (tgt := 215) dL_areBendsSo_208 (by decide) (fun c90 => ?_) (fun c90 => ?_)
                        · have hs := hs.1 c90
                          refine wp_iconst (v := (nI 0)) dL_areBendsSo_215 (by decide) ?_
                          refine wp_sub (ls' := [(0, .ref 0), (1, .int y51), (2, .int y56), (3, .int y59), (5, .int x5), (6, .int v16), (7, .int v18), (8, .int y24), (9, .int b28), (10, .int b44)]) [0, 1, 2, 3, 4, 5, 6, 7, 8, 9] rfl ?_
                          exact hK93 _ _ hs
                        · have hs := hs.2 c90
                          refine wp_iconst (v := (nI 1)) dL_areBendsSo_211 (by decide) ?_
                          refine wp_goto (tgt := 216) dL_areBendsSo_212 (by decide) ?_
                          refine wp_sub (ls' := [(0, .ref 0), (1, .int y51), (2, .int y56), (3, .int y59), (5, .int x5), (6, .int v16), (7, .int v18), (8, .int y24), (9, .int b28), (10, .int b44)]) [0, 1, 2, 3, 4, 5, 6, 7, 8, 9] rfl ?_
                          exact hK93 _ _ hs
                    refine wp_icmp_ne (tgt := 199) dL_areBendsSo_192 (by decide) (fun c85 => ?_) (fun c85 => ?_)
                    · have hs := hs.1 c85
                      refine wp_iconst (v := (nI 0)) dL_areBendsSo_199 (by decide) ?_
                      refine wp_sub (ls' := [(0, .ref 0), (1, .int y51), (2, .int y56), (3, .int y59), (5, .int x5), (6, .int v16), (7, .int v18), (8, .int y24), (9, .int b28), (10, .int b44)]) [0, 1, 2, 3, 5, 6, 7, 8, 9, 10] rfl ?_
                      exact hK88 _ _ hs
                    · have hs := hs.2 c85
                      refine wp_iconst (v := (nI 1)) dL_areBendsSo_195 (by decide) ?_
                      refine wp_goto (tgt := 200) dL_areBendsSo_196 (by decide) ?_
                      refine wp_sub (ls' := [(0, .ref 0), (1, .int y51), (2, .int y56), (3, .int y59), (5, .int x5), (6, .int v16), (7, .int v18), (8, .int y24), (9, .int b28), (10, .int b44)]) [0, 1, 2, 3, 5, 6, 7, 8, 9, 10] rfl ?_
                      exact hK88 _ _ hs
                refine wp_if_ne (tgt := 170) dL_areBendsSo_160 (by decide) (fun c52 => ?_) (fun c52 => ?_)
                · have hs := hs.1 c52
                  refine wp_iconst (v := (nI 0)) dL_areBendsSo_170 (by decide) ?_
                  refine wp_sub (ls' := [(0, .ref 0), (1, .int y51), (3, .int x3), (4, .int x4), (5, .int x5), (6, .int v16), (7, .int v18), (8, .int y24), (9, .int b28), (10, .int b44)]) [0, 1, 3, 4, 5, 6, 7, 8, 9, 10] rfl ?_
                  exact hK55 _ _ hs
                · have hs := hs.2 c52
                  refine wp_iconst (v := (nI 1)) dL_areBendsSo_163 (by decide) ?_
                  refine wp_iload 5 dL_areBendsSo_164 rfl ?_
                  refine wp_ishl dL_areBendsSo_166 ?_
                  refine wp_goto (tgt := 171) dL_areBendsSo_167 (by decide) ?_
                  refine wp_sub (ls' := [(0, .ref 0), (1, .int y51), (3, .int x3), (4, .int x4), (5, .int x5), (6, .int v16), (7, .int v18), (8, .int y24), (9, .int b28), (10, .int b44)]) [0, 1, 3, 4, 5, 6, 7, 8, 9, 10] rfl ?_
                  exact hK55 _ _ hs
              refine wp_if_eq (tgt := 154) dL_areBendsSo_147 (by decide) (fun c47 => ?_) (fun c47 => ?_)
              · have hs := hs.1 c47
                refine wp_iconst (v := (nI 0)) dL_areBendsSo_154 (by decide) ?_
                refine wp_sub (ls' := [(0, .ref 0), (2, .int x2), (3, .int x3), (4, .int x4), (5, .int x5), (6, .int v16), (7, .int v18), (8, .int y24), (9, .int b28), (10, .int b44)]) [0, 2, 3, 4, 5, 6, 7, 8, 9, 10] rfl ?_
                exact hK50 _ _ hs
              · have hs := hs.2 c47
                refine wp_iconst (v := (nI 1)) dL_areBendsSo_150 (by decide) ?_
                refine wp_goto (tgt := 155) dL_areBendsSo_151 (by decide) ?_
                refine wp_sub (ls' := [(0, .ref 0), (2, .int x2), (3, .int x3), (4, .int x4), (5, .int x5), (6, .int v16), (7, .int v18), (8, .int y24), (9, .int b28), (10, .int b44)]) [0, 2, 3, 4, 5, 6, 7, 8, 9, 10] rfl ?_
                exact hK50 _ _ hs
            refine wp_icmp_ne (tgt := 141) dL_areBendsSo_134 (by decide) (fun c43 => ?_) (fun c43 => ?_)
            · have hs := hs.1 c43
              refine wp_iconst (v := (nI 0)) dL_areBendsSo_141 (by decide) ?_
              refine wp_sub (ls' := [(0, .ref 0), (1, .int x1), (2, .int x2), (3, .int x3), (4, .int x4), (5, .int x5), (6, .int v16), (7, .int v18), (8, .int y24), (9, .int b28)]) [0, 1, 2, 3, 4, 5, 6, 7, 8, 9] rfl ?_
              exact hK46 _ _ hs
            · have hs := hs.2 c43
              refine wp_iconst (v := (nI 1)) dL_areBendsSo_137 (by decide) ?_
              refine wp_goto (tgt := 142) dL_areBendsSo_138 (by decide) ?_
              refine wp_sub (ls' := [(0, .ref 0), (1, .int x1), (2, .int x2), (3, .int x3), (4, .int x4), (5, .int x5), (6, .int v16), (7, .int v18), (8, .int y24), (9, .int b28)]) [0, 1, 2, 3, 4, 5, 6, 7, 8, 9] rfl ?_
              exact hK46 _ _ hs
          refine wp_if_ne (tgt := 133) dL_areBendsSo_126 (by decide) (fun c39 => ?_) (fun c39 => ?_)
          · have hs := hs.1 c39
            refine wp_iconst (v := (nI 0)) dL_areBendsSo_133 (by decide) ?_
            refine wp_sub (ls' := [(0, .ref 0), (1, .int x1), (2, .int x2), (3, .int x3), (4, .int x4), (5, .int x5), (6, .int v16), (7, .int v18), (8, .int y24), (9, .int b28)]) [0, 1, 2, 3, 4, 5, 6, 7, 8, 9] rfl ?_
            exact hK42 _ _ hs
          · have hs := hs.2 c39
            refine wp_iconst (v := (nI 1)) dL_areBendsSo_129 (by decide) ?_
            refine wp_goto (tgt := 134) dL_areBendsSo_130 (by decide) ?_
            refine wp_sub (ls' := [(0, .ref 0), (1, .int x1), (2, .int x2), (3, .int x3), (4, .int x4), (5, .int x5), (6, .int v16), (7, .int v18), (8, .int y24), (9, .int b28)]) [0, 1, 2, 3, 4, 5, 6, 7, 8, 9] rfl ?_
            exact hK42 _ _ hs
        refine wp_icmp_ne (tgt := 120) dL_areBendsSo_113 (by decide) (fun c33 => ?_) (fun c33 => ?_)
        · have hs := hs.1 c33
          refine wp_iconst (v := (nI 0)) dL_areBendsSo_120 (by decide) ?_
          refine wp_sub (ls' := [(0, .ref 0), (1, .int x1), (2, .int x2), (3, .int x3), (4, .int x4), (5, .int x5), (6, .int v16), (7, .int v18), (8, .int y24), (9, .int b28)]) [0, 1, 2, 3, 4, 5, 6, 7, 8, 9] rfl ?_
          exact hK36 _ _ hs
        · have hs := hs.2 c33
          refine wp_iconst (v := (nI 1)) dL_areBendsSo_116 (by decide) ?_
          refine wp_goto (tgt := 121) dL_areBendsSo_117 (by decide) ?_
          refine wp_sub (ls' := [(0, .ref 0), (1, .int x1), (2, .int x2), (3, .int x3), (4, .int x4), (5, .int x5), (6, .int v16), (7, .int v18), (8, .int y24), (9, .int b28)]) [0, 1, 2, 3, 4, 5, 6, 7, 8, 9] rfl ?_
          exact hK36 _ _ hs
      refine wp_icmp_ne (tgt := 102) dL_areBendsSo_95 (by decide) (fun c27 => ?_) (fun c27 => ?_)
      · have hs := hs.1 c27
        refine wp_iconst (v := (nI 0)) dL_areBendsSo_102 (by decide) ?_
        refine wp_sub (ls' := [(0, .ref 0), (1, .int x1), (2, .int x2), (3, .int x3), (4, .int x4), (5, .int x5), (6, .int v16), (7, .int v18), (8, .int y24)]) [0, 1, 2, 3, 4, 5, 6, 7, 8] rfl ?_
        exact hK30 _ _ hs
      · have hs := hs.2 c27
        refine wp_iconst (v := (nI 1)) dL_areBendsSo_98 (by decide) ?_
        refine wp_goto (tgt := 103) dL_areBendsSo_99 (by decide) ?_
        refine wp_sub (ls' := [(0, .ref 0), (1, .int x1), (2, .int x2), (3, .int x3), (4, .int x4), (5, .int x5), (6, .int v16), (7, .int v18), (8, .int y24)]) [0, 1, 2, 3, 4, 5, 6, 7, 8] rfl ?_
        exact hK30 _ _ hs
def w_L_areBendsSo (M : Mem) (Q : Int32 → Mem → Prop) : Prop := w_X6_count (nI 0) M (fr M (fun v1 M2 => w_X6_lengthOf v1 M2 (fr M2 (fun v3 M4 => w_X6_count (nI 0) M4 (fr M4 (fun v5 M6 => w_X6_ofBend v5 (nI 0) M6 (fr M6 (fun v7 M8 => ∃ K12 : Int32 → Mem → Prop, (∀ (b10 : Int32) (M11 : Mem), K12 b10 M11 → w_L_areBendsSo_40 FU (nI 0) (nI 0) v3 b10 (nI 0) M11 (fun y124 y125 y126 y127 y128 M129 => ((y127 = 0 → Q (nI 0) M129) ∧ (¬ y127 = 0 → w_X6_count (nI 1) M129 (fr M129 (fun v131 M132 => ((¬ y124 = v131 → Q (nI 0) M132) ∧ (y124 = v131 → w_X6_count (nI 4) M132 (fr M132 (fun v134 M135 => ((¬ y125 = v134 → Q (nI 0) M135) ∧ (y125 = v134 → w_X6_count (nI 6) M135 (fr M135 (fun v137 M138 => ((¬ y126 = v137 → Q (nI 0) M138) ∧ (y126 = v137 → Q (nI 1) M138)))))))))))))))) ∧ ((¬ v7 = (-1001 : Int32) → K12 (nI 0) M8) ∧ (v7 = (-1001 : Int32) → K12 (nI 1) M8))))))))))
set_option maxHeartbeats 4000000 in
set_option maxRecDepth 100000 in
theorem mw_L_areBendsSo {E : EN} {N : Nat} {M : Mem} {Q : Int32 → Mem → Prop} (hN : h46 N) (hs : w_L_areBendsSo M Q) : MW E iL_areBendsSo 8 0 0 true [.ref 0] σC N M (qI σC N Q) := by
  refine mw_intro (ls := [(0, .ref 0)]) rfl (by decide +kernel) rfl rfl (Nat.le_of_ble_eq_true rfl) ?_
  have hQ : ∀ x M, Q x M → (qI σC N Q) (some (.int x)) σC N M := fun _ _ h => ⟨_, rfl, rfl, rfl, h⟩
  generalize qI σC N Q = Qf at hQ ⊢
  unfold w_L_areBendsSo at hs
  refine wp_iconst (v := (nI 0)) dL_areBendsSo_0 (by decide) ?_
  refine wp_istore_n (ls' := [(0, .ref 0), (1, .int (nI 0))]) [1, 0] dL_areBendsSo_1 rfl (by decide) ?_
  refine wp_iconst (v := (nI 0)) dL_areBendsSo_2 (by decide) ?_
  refine wp_istore_n (ls' := [(0, .ref 0), (1, .int (nI 0)), (2, .int (nI 0))]) [1, 2, 0] dL_areBendsSo_3 rfl (by decide) ?_
  refine wp_aload_n 0 dL_areBendsSo_4 rfl ?_
  refine wp_aload_n 0 dL_areBendsSo_5 rfl ?_
  refine wp_iconst (v := (nI 0)) dL_areBendsSo_6 (by decide) ?_
  refine wp_cF (As := [.int (nI 0)]) (st := [.ref 0]) hN (mw_X6_count hs) gL_areBendsSo_X6_count rfl hy_X6_count rfl rfl (by decide) (by decide) (Nat.le_of_ble_eq_true rfl) rfl dL_areBendsSo_7 (fun v1 M2 hs => ?_)
  refine wp_cF (As := [.int v1]) (st := []) hN (mw_X6_lengthOf hs) gL_areBendsSo_X6_lengthOf rfl hy_X6_lengthOf rfl rfl (by decide) (by decide) (Nat.le_of_ble_eq_true rfl) rfl dL_areBendsSo_10 (fun v3 M4 hs => ?_)
  refine wp_istore_n (ls' := [(0, .ref 0), (1, .int (nI 0)), (2, .int (nI 0)), (3, .int v3)]) [1, 2, 3, 0] dL_areBendsSo_13 rfl (by decide) ?_
  refine wp_aload_n 0 dL_areBendsSo_14 rfl ?_
  refine wp_aload_n 0 dL_areBendsSo_15 rfl ?_
  refine wp_iconst (v := (nI 0)) dL_areBendsSo_16 (by decide) ?_
  refine wp_cF (As := [.int (nI 0)]) (st := [.ref 0]) hN (mw_X6_count hs) gL_areBendsSo_X6_count rfl hy_X6_count rfl rfl (by decide) (by decide) (Nat.le_of_ble_eq_true rfl) rfl dL_areBendsSo_17 (fun v5 M6 hs => ?_)
  refine wp_iconst (v := (nI 0)) dL_areBendsSo_20 (by decide) ?_
  refine wp_cF (As := [.int v5, .int (nI 0)]) (st := []) hN (mw_X6_ofBend hs) gL_areBendsSo_X6_ofBend rfl hy_X6_ofBend rfl rfl (by decide) (by decide) (Nat.le_of_ble_eq_true rfl) rfl dL_areBendsSo_21 (fun v7 M8 hs => ?_)
  refine wp_sipush (v := (-1001 : Int32)) dL_areBendsSo_24 (by decide) ?_
  obtain ⟨K12, kK12, hs⟩ := hs
  have hK12 : ∀ (b10 : Int32) (M11 : Mem), K12 b10 M11 → WP E iL_areBendsSo 8 0 0 true 35 [(0, .ref 0), (1, .int (nI 0)), (2, .int (nI 0)), (3, .int v3)] [.int b10] σC N M11 Qf := by
    intro b10 M11 hs
    have hs := kK12 b10 M11 hs
    refine wp_istore (ls' := [(0, .ref 0), (1, .int (nI 0)), (2, .int (nI 0)), (3, .int v3), (4, .int b10)]) [1, 2, 3, 4, 0] dL_areBendsSo_35 rfl (by decide) ?_
    refine wp_iconst (v := (nI 0)) dL_areBendsSo_37 (by decide) ?_
    refine wp_istore (ls' := [(0, .ref 0), (1, .int (nI 0)), (2, .int (nI 0)), (3, .int v3), (4, .int b10), (5, .int (nI 0))]) [1, 2, 3, 4, 5, 0] dL_areBendsSo_38 rfl (by decide) ?_
    refine wp_sub (ls' := [(0, .ref 0), (1, .int (nI 0)), (2, .int (nI 0)), (3, .int v3), (4, .int b10), (5, .int (nI 0))]) [0, 1, 2, 3, 4, 5] rfl ?_
    refine lp_L_areBendsSo_40 hN (K := fun y124 y125 y126 y127 y128 M129 => ((y127 = 0 → Q (nI 0) M129) ∧ (¬ y127 = 0 → w_X6_count (nI 1) M129 (fr M129 (fun v131 M132 => ((¬ y124 = v131 → Q (nI 0) M132) ∧ (y124 = v131 → w_X6_count (nI 4) M132 (fr M132 (fun v134 M135 => ((¬ y125 = v134 → Q (nI 0) M135) ∧ (y125 = v134 → w_X6_count (nI 6) M135 (fr M135 (fun v137 M138 => ((¬ y126 = v137 → Q (nI 0) M138) ∧ (y126 = v137 → Q (nI 1) M138))))))))))))))) (fun y124 y125 y126 y127 y128 M129 hs => ?_) FU _ _ _ _ _ _ hs
    refine wp_iload 4 dL_areBendsSo_413 rfl ?_
    refine wp_if_eq (tgt := 450) dL_areBendsSo_415 (by decide) (fun c130 => ?_) (fun c130 => ?_)
    · have hs := hs.1 c130
      refine wp_iconst (v := (nI 0)) dL_areBendsSo_450 (by decide) ?_
      exact wp_ireturn rfl rfl dL_areBendsSo_451 (hQ _ _ hs)
    · have hs := hs.2 c130
      refine wp_iload_n 1 dL_areBendsSo_418 rfl ?_
      refine wp_aload_n 0 dL_areBendsSo_419 rfl ?_
      refine wp_iconst (v := (nI 1)) dL_areBendsSo_420 (by decide) ?_
      refine wp_cF (As := [.int (nI 1)]) (st := [.int y124]) hN (mw_X6_count hs) gL_areBendsSo_X6_count rfl hy_X6_count rfl rfl (by decide) (by decide) (Nat.le_of_ble_eq_true rfl) rfl dL_areBendsSo_421 (fun v131 M132 hs => ?_)
      refine wp_icmp_ne (tgt := 450) dL_areBendsSo_424 (by decide) (fun c133 => ?_) (fun c133 => ?_)
      · have hs := hs.1 c133
        refine wp_iconst (v := (nI 0)) dL_areBendsSo_450 (by decide) ?_
        exact wp_ireturn rfl rfl dL_areBendsSo_451 (hQ _ _ hs)
      · have hs := hs.2 c133
        refine wp_iload_n 2 dL_areBendsSo_427 rfl ?_
        refine wp_aload_n 0 dL_areBendsSo_428 rfl ?_
        refine wp_iconst (v := (nI 4)) dL_areBendsSo_429 (by decide) ?_
        refine wp_cF (As := [.int (nI 4)]) (st := [.int y125]) hN (mw_X6_count hs) gL_areBendsSo_X6_count rfl hy_X6_count rfl rfl (by decide) (by decide) (Nat.le_of_ble_eq_true rfl) rfl dL_areBendsSo_430 (fun v134 M135 hs => ?_)
        refine wp_icmp_ne (tgt := 450) dL_areBendsSo_433 (by decide) (fun c136 => ?_) (fun c136 => ?_)
        · have hs := hs.1 c136
          refine wp_iconst (v := (nI 0)) dL_areBendsSo_450 (by decide) ?_
          exact wp_ireturn rfl rfl dL_areBendsSo_451 (hQ _ _ hs)
        · have hs := hs.2 c136
          refine wp_iload_n 3 dL_areBendsSo_436 rfl ?_
          refine wp_aload_n 0 dL_areBendsSo_437 rfl ?_
          refine wp_bipush (v := (nI 6)) dL_areBendsSo_438 (by decide) ?_
          refine wp_cF (As := [.int (nI 6)]) (st := [.int y126]) hN (mw_X6_count hs) gL_areBendsSo_X6_count rfl hy_X6_count rfl rfl (by decide) (by decide) (Nat.le_of_ble_eq_true rfl) rfl dL_areBendsSo_440 (fun v137 M138 hs => ?_)
          refine wp_icmp_ne (tgt := 450) dL_areBendsSo_443 (by decide) (fun c139 => ?_) (fun c139 => ?_)
          · have hs := hs.1 c139
            refine wp_iconst (v := (nI 0)) dL_areBendsSo_450 (by decide) ?_
            exact wp_ireturn rfl rfl dL_areBendsSo_451 (hQ _ _ hs)
          · have hs := hs.2 c139
            refine wp_iconst (v := (nI 1)) dL_areBendsSo_446 (by decide) ?_
            refine wp_goto (tgt := 451) dL_areBendsSo_447 (by decide) ?_
            exact wp_ireturn rfl rfl dL_areBendsSo_451 (hQ _ _ hs)
  refine wp_icmp_ne (tgt := 34) dL_areBendsSo_27 (by decide) (fun c9 => ?_) (fun c9 => ?_)
  · have hs := hs.1 c9
    refine wp_iconst (v := (nI 0)) dL_areBendsSo_34 (by decide) ?_
    refine wp_sub (ls' := [(0, .ref 0), (1, .int (nI 0)), (2, .int (nI 0)), (3, .int v3)]) [0, 1, 2, 3] rfl ?_
    exact hK12 _ _ hs
  · have hs := hs.2 c9
    refine wp_iconst (v := (nI 1)) dL_areBendsSo_30 (by decide) ?_
    refine wp_goto (tgt := 35) dL_areBendsSo_31 (by decide) ?_
    refine wp_sub (ls' := [(0, .ref 0), (1, .int (nI 0)), (2, .int (nI 0)), (3, .int v3)]) [0, 1, 2, 3] rfl ?_
    exact hK12 _ _ hs
abbrev iL_isOrderSo : MI := (cL_isOrderSo, 10, some .boolean, RL, yL_isOrderSo, wsL_isOrderSo)
theorem hy_L_isOrderSo : yL_isOrderSo.cls ≠ "java/lang/invoke/MethodHandle" ∧ yL_isOrderSo.cls ≠ "java/lang/invoke/VarHandle" ∧ (parseMethodDescriptor yL_isOrderSo.desc).map (fun d => d.parameters.length) = some 1 := by decide +kernel
def w_L_isOrderSo_139 (r6 : Nat) : Nat → Int32 → Int32 → Int32 → Int32 → Int32 → Int32 → Mem → (Int32 → Mem → Prop) → Prop
  | 0, _, _, _, _, _, _, _, _ => False
  | n + 1, x1, x2, x3, x4, x5, x7, M, K => ((x2 ≤ x7 → K x7 M) ∧ (¬ x2 ≤ x7 → w_X6_order x7 M (fr M (fun v21 M22 => (vp_in x7 7 ∧ ∀ M23 : Mem, M23 = um M22 r6 (upd (M22 r6) x7.toNatClampNeg v21) → ∀ y24 : Int32, y24 = x7 + (nI 1) → w_L_isOrderSo_139 r6 n x1 x2 x3 x4 x5 y24 M23 K)))))
set_option maxHeartbeats 4000000 in
set_option maxRecDepth 100000 in
theorem lp_L_isOrderSo_139 {E : EN} {N : Nat} {r6 : Nat} {x1 : Int32} {x2 : Int32} {x3 : Int32} {x4 : Int32} {x5 : Int32} {Qf : PST} {K : Int32 → Mem → Prop} (hN : h46 N) (hr6 : isW N r6) (hK : ∀ (z7 : Int32) (M : Mem), K z7 M → WP E iL_isOrderSo 8 0 0 true 162 [(0, .ref 0), (1, .int x1), (2, .int x2), (3, .int x3), (4, .int x4), (5, .int x5), (6, .ref r6)] [] σC N M Qf) : ∀ (nn : Nat) (x7 : Int32) (M : Mem), w_L_isOrderSo_139 r6 nn x1 x2 x3 x4 x5 x7 M K → WP E iL_isOrderSo 8 0 0 true 139 [(0, .ref 0), (1, .int x1), (2, .int x2), (3, .int x3), (4, .int x4), (5, .int x5), (6, .ref r6), (7, .int x7)] [] σC N M Qf := by
  intro nn
  induction nn with
  | zero => intro x7 M hs; exact hs.elim
  | succ n ih =>
    intro x7 M hs
    unfold w_L_isOrderSo_139 at hs
    refine wp_iload 7 dL_isOrderSo_139 rfl ?_
    refine wp_iload_n 2 dL_isOrderSo_141 rfl ?_
    refine wp_icmp_ge (tgt := 162) dL_isOrderSo_142 (by decide) (fun c20 => ?_) (fun c20 => ?_)
    · have hs := hs.1 c20
      refine wp_sub (ls' := [(0, .ref 0), (1, .int x1), (2, .int x2), (3, .int x3), (4, .int x4), (5, .int x5), (6, .ref r6)]) [0, 1, 2, 3, 4, 5, 6] rfl ?_
      exact hK _ _ hs
    · have hs := hs.2 c20
      refine wp_aload 6 dL_isOrderSo_145 rfl ?_
      refine wp_iload 7 dL_isOrderSo_147 rfl ?_
      refine wp_aload_n 0 dL_isOrderSo_149 rfl ?_
      refine wp_iload 7 dL_isOrderSo_150 rfl ?_
      refine wp_cF (As := [.int x7]) (st := [.int x7, .ref r6]) hN (mw_X6_order hs) gL_isOrderSo_X6_order rfl hy_X6_order rfl rfl (by decide) (by decide) (Nat.le_of_ble_eq_true rfl) rfl dL_isOrderSo_152 (fun v21 M22 hs => ?_)
      have hv := hs.1
      have hs := hs.2
      refine wp_iast (σC_row hr6.1) hr6.2 hv dL_isOrderSo_155 (fun M23 eM23 => ?_)
      have hs := hs M23 eM23
      obtain ⟨y24, ey24⟩ : ∃ y : Int32, y = x7 + (nI 1) := ⟨_, rfl⟩
      have hs := hs y24 ey24
      refine wp_iinc (v := y24) (ls' := [(0, .ref 0), (1, .int x1), (2, .int x2), (3, .int x3), (4, .int x4), (5, .int x5), (6, .ref r6), (7, .int y24)]) 7 [1, 2, 3, 4, 5, 6, 7, 0] dL_isOrderSo_156 rfl (by rw [ey24]; rfl) rfl (by decide) ?_
      refine wp_goto (tgt := 139) dL_isOrderSo_159 (by decide) ?_
      refine wp_sub (ls' := [(0, .ref 0), (1, .int x1), (2, .int x2), (3, .int x3), (4, .int x4), (5, .int x5), (6, .ref r6), (7, .int y24)]) [0, 1, 2, 3, 4, 5, 6, 7] rfl ?_
      exact ih _ _ hs
def w_L_isOrderSo_217 (r6 : Nat) : Nat → Int32 → Int32 → Int32 → Int32 → Int32 → Int32 → Mem → (Int32 → Int32 → Int32 → Mem → Prop) → Prop
  | 0, _, _, _, _, _, _, _, _ => False
  | n + 1, x1, x2, x3, x5, x7, x9, M, K => ((x2 ≤ x9 → K x3 x5 x9 M) ∧ (¬ x2 ≤ x9 → (vp_in x9 7 ∧ w_X6_ofBend (M r6 x9.toNatClampNeg) (nI 2) M (fr M (fun v38 M39 => ∃ K43 : Int32 → Mem → Prop, (∀ (x41 : Int32) (M42 : Mem), K43 x41 M42 → ∃ K47 : Int32 → Mem → Prop, (∀ (b45 : Int32) (M46 : Mem), K47 b45 M46 → ∀ y48 : Int32, y48 = x9 + (nI 1) → w_L_isOrderSo_217 r6 n x1 x2 x41 b45 x7 y48 M46 K) ∧ ((x5 = 0 → K47 (nI 0) M42) ∧ (¬ x5 = 0 → w_X6_order (nI 0) M42 (fr M42 (fun v49 M50 => (vp_in x9 7 ∧ ((¬ v49 = (M50 r6 x9.toNatClampNeg) → K47 (nI 0) M50) ∧ (v49 = (M50 r6 x9.toNatClampNeg) → (vp_in x9 7 ∧ w_X6_ofBend (M50 r6 x9.toNatClampNeg) (nI 2) M50 (fr M50 (fun v52 M53 => ((¬ v52 = 0 → K47 (nI 0) M53) ∧ (v52 = 0 → (vp_in x9 7 ∧ w_X6_bend (M53 r6 x9.toNatClampNeg) M53 (fr M53 (fun v55 M56 => ((¬ v55 = ((x7 + x9) + (nI 1)) → K47 (nI 0) M56) ∧ (v55 = ((x7 + x9) + (nI 1)) → K47 (nI 1) M56)))))))))))))))))) ∧ ((¬ v38 = (nI 2) → K43 x3 M39) ∧ (v38 = (nI 2) → w_X6_layOver M39 (fr M39 (fun v58 M59 => ∀ y60 : Int32, y60 = x3 + (-1 : Int32) → K43 y60 M59)))))))))
set_option maxHeartbeats 4000000 in
set_option maxRecDepth 100000 in
theorem lp_L_isOrderSo_217 {E : EN} {N : Nat} {r6 : Nat} {x1 : Int32} {x2 : Int32} {x7 : Int32} {Qf : PST} {K : Int32 → Int32 → Int32 → Mem → Prop} (hN : h46 N) (hr6 : isW N r6) (hK : ∀ (z3 : Int32) (z5 : Int32) (z9 : Int32) (M : Mem), K z3 z5 z9 M → WP E iL_isOrderSo 8 0 0 true 309 [(0, .ref 0), (1, .int x1), (3, .int z3), (5, .int z5), (7, .int x7)] [] σC N M Qf) : ∀ (nn : Nat) (x3 : Int32) (x5 : Int32) (x9 : Int32) (M : Mem), w_L_isOrderSo_217 r6 nn x1 x2 x3 x5 x7 x9 M K → WP E iL_isOrderSo 8 0 0 true 217 [(0, .ref 0), (1, .int x1), (2, .int x2), (3, .int x3), (5, .int x5), (6, .ref r6), (7, .int x7), (9, .int x9)] [] σC N M Qf := by
  intro nn
  induction nn with
  | zero => intro x3 x5 x9 M hs; exact hs.elim
  | succ n ih =>
    intro x3 x5 x9 M hs
    unfold w_L_isOrderSo_217 at hs
    refine wp_iload 7 dL_isOrderSo_217 rfl ?_
    refine wp_iload_n 2 dL_isOrderSo_219 rfl ?_
    refine wp_icmp_ge (tgt := 309) dL_isOrderSo_220 (by decide) (fun c37 => ?_) (fun c37 => ?_)
    · have hs := hs.1 c37
      refine wp_sub (ls' := [(0, .ref 0), (1, .int x1), (3, .int x3), (5, .int x5), (7, .int x7)]) [0, 1, 3, 4, 6] rfl ?_
      exact hK _ _ _ _ hs
    · have hs := hs.2 c37
      refine wp_aload_n 0 dL_isOrderSo_223 rfl ?_
      refine wp_aload 5 dL_isOrderSo_224 rfl ?_
      refine wp_iload 7 dL_isOrderSo_226 rfl ?_
      have hv := hs.1
      have hs := hs.2
      refine wp_iald (σC_row hr6.1) hr6.2 hv dL_isOrderSo_228 ?_
      refine wp_iconst (v := (nI 2)) dL_isOrderSo_229 (by decide) ?_
      refine wp_cF (As := [.int (M r6 x9.toNatClampNeg), .int (nI 2)]) (st := []) hN (mw_X6_ofBend hs) gL_isOrderSo_X6_ofBend rfl hy_X6_ofBend rfl rfl (by decide) (by decide) (Nat.le_of_ble_eq_true rfl) rfl dL_isOrderSo_230 (fun v38 M39 hs => ?_)
      refine wp_iconst (v := (nI 2)) dL_isOrderSo_233 (by decide) ?_
      obtain ⟨K43, kK43, hs⟩ := hs
      have hK43 : ∀ (x41 : Int32) (M42 : Mem), K43 x41 M42 → WP E iL_isOrderSo 8 0 0 true 246 [(0, .ref 0), (1, .int x1), (2, .int x2), (3, .int x41), (5, .int x5), (6, .ref r6), (7, .int x7), (9, .int x9)] [] σC N M42 Qf := by
        intro x41 M42 hs
        have hs := kK43 x41 M42 hs
        refine wp_iload 4 dL_isOrderSo_246 rfl ?_
        obtain ⟨K47, kK47, hs⟩ := hs
        have hK47 : ∀ (b45 : Int32) (M46 : Mem), K47 b45 M46 → WP E iL_isOrderSo 8 0 0 true 301 [(0, .ref 0), (1, .int x1), (2, .int x2), (3, .int x41), (6, .ref r6), (7, .int x7), (9, .int x9)] [.int b45] σC N M46 Qf := by
          intro b45 M46 hs
          have hs := kK47 b45 M46 hs
          refine wp_istore (ls' := [(0, .ref 0), (1, .int x1), (2, .int x2), (3, .int x41), (5, .int b45), (6, .ref r6), (7, .int x7), (9, .int x9)]) [1, 2, 3, 4, 0, 5, 6, 7] dL_isOrderSo_301 rfl (by decide) ?_
          obtain ⟨y48, ey48⟩ : ∃ y : Int32, y = x9 + (nI 1) := ⟨_, rfl⟩
          have hs := hs y48 ey48
          refine wp_iinc (v := y48) (ls' := [(0, .ref 0), (1, .int x1), (2, .int x2), (3, .int x41), (5, .int b45), (6, .ref r6), (7, .int x7), (9, .int y48)]) 7 [1, 2, 3, 4, 5, 6, 7, 0] dL_isOrderSo_303 rfl (by rw [ey48]; rfl) rfl (by decide) ?_
          refine wp_goto (tgt := 217) dL_isOrderSo_306 (by decide) ?_
          refine wp_sub (ls' := [(0, .ref 0), (1, .int x1), (2, .int x2), (3, .int x41), (5, .int b45), (6, .ref r6), (7, .int x7), (9, .int y48)]) [0, 1, 2, 3, 4, 5, 6, 7] rfl ?_
          exact ih _ _ _ _ hs
        refine wp_if_eq (tgt := 300) dL_isOrderSo_248 (by decide) (fun c44 => ?_) (fun c44 => ?_)
        · have hs := hs.1 c44
          refine wp_iconst (v := (nI 0)) dL_isOrderSo_300 (by decide) ?_
          refine wp_sub (ls' := [(0, .ref 0), (1, .int x1), (2, .int x2), (3, .int x41), (6, .ref r6), (7, .int x7), (9, .int x9)]) [0, 1, 2, 3, 5, 6, 7] rfl ?_
          exact hK47 _ _ hs
        · have hs := hs.2 c44
          refine wp_aload_n 0 dL_isOrderSo_251 rfl ?_
          refine wp_iconst (v := (nI 0)) dL_isOrderSo_252 (by decide) ?_
          refine wp_cF (As := [.int (nI 0)]) (st := []) hN (mw_X6_order hs) gL_isOrderSo_X6_order rfl hy_X6_order rfl rfl (by decide) (by decide) (Nat.le_of_ble_eq_true rfl) rfl dL_isOrderSo_253 (fun v49 M50 hs => ?_)
          refine wp_aload 5 dL_isOrderSo_256 rfl ?_
          refine wp_iload 7 dL_isOrderSo_258 rfl ?_
          have hv := hs.1
          have hs := hs.2
          refine wp_iald (σC_row hr6.1) hr6.2 hv dL_isOrderSo_260 ?_
          refine wp_icmp_ne (tgt := 300) dL_isOrderSo_261 (by decide) (fun c51 => ?_) (fun c51 => ?_)
          · have hs := hs.1 c51
            refine wp_iconst (v := (nI 0)) dL_isOrderSo_300 (by decide) ?_
            refine wp_sub (ls' := [(0, .ref 0), (1, .int x1), (2, .int x2), (3, .int x41), (6, .ref r6), (7, .int x7), (9, .int x9)]) [0, 1, 2, 3, 5, 6, 7] rfl ?_
            exact hK47 _ _ hs
          · have hs := hs.2 c51
            refine wp_aload_n 0 dL_isOrderSo_264 rfl ?_
            refine wp_aload 5 dL_isOrderSo_265 rfl ?_
            refine wp_iload 7 dL_isOrderSo_267 rfl ?_
            have hv := hs.1
            have hs := hs.2
            refine wp_iald (σC_row hr6.1) hr6.2 hv dL_isOrderSo_269 ?_
            refine wp_iconst (v := (nI 2)) dL_isOrderSo_270 (by decide) ?_
            refine wp_cF (As := [.int (M50 r6 x9.toNatClampNeg), .int (nI 2)]) (st := []) hN (mw_X6_ofBend hs) gL_isOrderSo_X6_ofBend rfl hy_X6_ofBend rfl rfl (by decide) (by decide) (Nat.le_of_ble_eq_true rfl) rfl dL_isOrderSo_271 (fun v52 M53 hs => ?_)
            refine wp_if_ne (tgt := 300) dL_isOrderSo_274 (by decide) (fun c54 => ?_) (fun c54 => ?_)
            · have hs := hs.1 c54
              refine wp_iconst (v := (nI 0)) dL_isOrderSo_300 (by decide) ?_
              refine wp_sub (ls' := [(0, .ref 0), (1, .int x1), (2, .int x2), (3, .int x41), (6, .ref r6), (7, .int x7), (9, .int x9)]) [0, 1, 2, 3, 5, 6, 7] rfl ?_
              exact hK47 _ _ hs
            · have hs := hs.2 c54
              refine wp_aload_n 0 dL_isOrderSo_277 rfl ?_
              refine wp_aload 5 dL_isOrderSo_278 rfl ?_
              refine wp_iload 7 dL_isOrderSo_280 rfl ?_
              have hv := hs.1
              have hs := hs.2
              refine wp_iald (σC_row hr6.1) hr6.2 hv dL_isOrderSo_282 ?_
              refine wp_cF (As := [.int (M53 r6 x9.toNatClampNeg)]) (st := []) hN (mw_X6_bend hs) gL_isOrderSo_X6_bend rfl hy_X6_bend rfl rfl (by decide) (by decide) (Nat.le_of_ble_eq_true rfl) rfl dL_isOrderSo_283 (fun v55 M56 hs => ?_)
              refine wp_iload 6 dL_isOrderSo_286 rfl ?_
              refine wp_iload 7 dL_isOrderSo_288 rfl ?_
              refine wp_iadd dL_isOrderSo_290 ?_
              refine wp_iconst (v := (nI 1)) dL_isOrderSo_291 (by decide) ?_
              refine wp_iadd dL_isOrderSo_292 ?_
              refine wp_icmp_ne (tgt := 300) dL_isOrderSo_293 (by decide) (fun c57 => ?_) (fun c57 => ?_)
              · have hs := hs.1 c57
                refine wp_iconst (v := (nI 0)) dL_isOrderSo_300 (by decide) ?_
                refine wp_sub (ls' := [(0, .ref 0), (1, .int x1), (2, .int x2), (3, .int x41), (6, .ref r6), (7, .int x7), (9, .int x9)]) [0, 1, 2, 3, 5, 6, 7] rfl ?_
                exact hK47 _ _ hs
              · have hs := hs.2 c57
                refine wp_iconst (v := (nI 1)) dL_isOrderSo_296 (by decide) ?_
                refine wp_goto (tgt := 301) dL_isOrderSo_297 (by decide) ?_
                refine wp_sub (ls' := [(0, .ref 0), (1, .int x1), (2, .int x2), (3, .int x41), (6, .ref r6), (7, .int x7), (9, .int x9)]) [0, 1, 2, 3, 5, 6, 7] rfl ?_
                exact hK47 _ _ hs
      refine wp_icmp_ne (tgt := 246) dL_isOrderSo_234 (by decide) (fun c40 => ?_) (fun c40 => ?_)
      · have hs := hs.1 c40
        refine wp_sub (ls' := [(0, .ref 0), (1, .int x1), (2, .int x2), (3, .int x3), (5, .int x5), (6, .ref r6), (7, .int x7), (9, .int x9)]) [0, 1, 2, 3, 4, 5, 6, 7] rfl ?_
        exact hK43 _ _ hs
      · have hs := hs.2 c40
        refine wp_aload_n 0 dL_isOrderSo_237 rfl ?_
        refine wp_cF (As := []) (st := []) hN (mw_X6_layOver hs) gL_isOrderSo_X6_layOver rfl hy_X6_layOver rfl rfl (by decide) (by decide) (Nat.le_of_ble_eq_true rfl) rfl dL_isOrderSo_238 (fun v58 M59 hs => ?_)
        refine wp_istore (ls' := [(0, .ref 0), (1, .int x1), (2, .int x2), (3, .int x3), (5, .int x5), (6, .ref r6), (7, .int x7), (8, .int v58), (9, .int x9)]) [1, 2, 3, 4, 5, 6, 7, 0, 8] dL_isOrderSo_241 rfl (by decide) ?_
        obtain ⟨y60, ey60⟩ : ∃ y : Int32, y = x3 + (-1 : Int32) := ⟨_, rfl⟩
        have hs := hs y60 ey60
        refine wp_iinc (v := y60) (ls' := [(0, .ref 0), (1, .int x1), (2, .int x2), (3, .int y60), (5, .int x5), (6, .ref r6), (7, .int x7), (8, .int v58), (9, .int x9)]) 3 [1, 2, 3, 0, 4, 5, 6, 7, 8] dL_isOrderSo_243 rfl (by rw [ey60]; rfl) rfl (by decide) ?_
        refine wp_sub (ls' := [(0, .ref 0), (1, .int x1), (2, .int x2), (3, .int y60), (5, .int x5), (6, .ref r6), (7, .int x7), (9, .int x9)]) [0, 1, 2, 3, 4, 5, 6, 8] rfl ?_
        exact hK43 _ _ hs
def w_L_isOrderSo (N : Nat) (M : Mem) (Q : Int32 → Mem → Prop) : Prop := w_X6_orders M (fr M (fun v1 M2 => w_X6_count (nI 0) M2 (fr M2 (fun v3 M4 => w_X6_count (nI 1) M4 (fr M4 (fun v5 M6 => ∀ y7 : Int32, y7 = (v3 - v5) → w_X6_count (nI 5) M6 (fr M6 (fun v8 M9 => w_X6_order (nI 0) M9 (fr M9 (fun v10 M11 => ((¬ v1 = 0 → w_X6_count (nI 3) M11 (fr M11 (fun v13 M14 => ∃ K18 : Int32 → Mem → Prop, (∀ (b16 : Int32) (M17 : Mem), K18 b16 M17 → ∀ M19 : Mem, M19 = um M17 N (fun _ => 0) → w_L_isOrderSo_139 N FU v1 y7 v8 v10 b16 (nI 0) M19 (fun y25 M26 => w_X6_keep M26 (fr M26 (fun v27 M28 => w_X6_layOver M28 (fr M28 (fun v29 M30 => ∃ K34 : Int32 → Mem → Prop, (∀ (b32 : Int32) (M33 : Mem), K34 b32 M33 → w_X6_layOver M33 (fr M33 (fun v35 M36 => w_L_isOrderSo_217 N FU v1 y7 v8 b32 v27 (nI 0) M36 (fun y61 y62 y63 M64 => ∃ K68 : Int32 → Mem → Prop, (∀ (b66 : Int32) (M67 : Mem), K68 b66 M67 → ((b66 = 0 → Q (nI 0) M67) ∧ (¬ b66 = 0 → w_X6_restore M67 (fr M67 (fun v70 M71 => ((¬ v70 = v27 → Q (nI 0) M71) ∧ (v70 = v27 → w_X6_orders M71 (fr M71 (fun v73 M74 => ((¬ v73 = v1 → Q (nI 0) M74) ∧ (v73 = v1 → Q (nI 1) M74))))))))))) ∧ ((y62 = 0 → K68 (nI 0) M64) ∧ (¬ y62 = 0 → ((¬ y61 = 0 → K68 (nI 0) M64) ∧ (y61 = 0 → w_X6_orders M64 (fr M64 (fun v77 M78 => ((¬ v77 = (nI 1) → K68 (nI 0) M78) ∧ (v77 = (nI 1) → K68 (nI 1) M78)))))))))))) ∧ ((b16 = 0 → K34 (nI 0) M30) ∧ (¬ b16 = 0 → w_X6_orders M30 (fr M30 (fun v80 M81 => ((¬ v80 = v1 → K34 (nI 0) M81) ∧ (v80 = v1 → ((y7 = 0 → K34 (nI 1) M81) ∧ (¬ y7 = 0 → w_X6_order (nI 0) M81 (fr M81 (fun v84 M85 => ((¬ v84 = v10 → K34 (nI 0) M85) ∧ (v84 = v10 → K34 (nI 1) M85)))))))))))))))))) ∧ ((¬ v13 = (nI 1) → K18 (nI 0) M14) ∧ (v13 = (nI 1) → ((v8 < 0 → K18 (nI 0) M14) ∧ (¬ v8 < 0 → ((y7 < v8 → K18 (nI 0) M14) ∧ (¬ y7 < v8 → w_X6_order y7 M14 (fr M14 (fun v89 M90 => ((¬ v89 = (-1005 : Int32) → K18 (nI 0) M90) ∧ (v89 = (-1005 : Int32) → ((0 < y7 → K18 (nI 1) M90) ∧ (¬ 0 < y7 → ((¬ v1 = (nI 1) → K18 (nI 0) M90) ∧ (v1 = (nI 1) → w_X6_follow (nI 1) M90 (fr M90 (fun v94 M95 => ((¬ v94 = (-1005 : Int32) → K18 (nI 0) M95) ∧ (v94 = (-1005 : Int32) → K18 (nI 1) M95))))))))))))))))))))) ∧ (v1 = 0 → w_X6_count (nI 3) M11 (fr M11 (fun v97 M98 => ((¬ v97 = 0 → Q (nI 0) M98) ∧ (v97 = 0 → ((¬ v8 = (-1005 : Int32) → Q (nI 0) M98) ∧ (v8 = (-1005 : Int32) → ((¬ v10 = (-1004 : Int32) → Q (nI 0) M98) ∧ (v10 = (-1004 : Int32) → w_X6_follow (nI 2) M98 (fr M98 (fun v102 M103 => ((¬ v102 = (-1004 : Int32) → Q (nI 0) M103) ∧ (v102 = (-1004 : Int32) → Q (nI 1) M103))))))))))))))))))))))))
set_option maxHeartbeats 4000000 in
set_option maxRecDepth 100000 in
theorem mw_L_isOrderSo {E : EN} {N : Nat} {M : Mem} {Q : Int32 → Mem → Prop} (hN : h46 N) (hN2 : N < 1000) (hs : w_L_isOrderSo N M Q) : MW E iL_isOrderSo 8 1 7 true [.ref 0] σC N M (qJ N Q) := by
  refine mw_intro (ls := [(0, .ref 0)]) rfl (by decide +kernel) rfl rfl (Nat.le_of_ble_eq_true rfl) ?_
  have hQ0 : ∀ x M, Q x M → (qJ N Q) (some (.int x)) σC N M := fun _ _ h => ⟨_, rfl, rfl, Or.inl rfl, h⟩
  have hQ1 : ∀ x M, Q x M → (qJ N Q) (some (.int x)) σC (N + 1) M := fun _ _ h => ⟨_, rfl, rfl, Or.inr rfl, h⟩
  generalize qJ N Q = Qf at hQ0 hQ1 ⊢
  unfold w_L_isOrderSo at hs
  refine wp_aload_n 0 dL_isOrderSo_0 rfl ?_
  refine wp_cF (As := []) (st := []) hN (mw_X6_orders hs) gL_isOrderSo_X6_orders rfl hy_X6_orders rfl rfl (by decide) (by decide) (Nat.le_of_ble_eq_true rfl) rfl dL_isOrderSo_1 (fun v1 M2 hs => ?_)
  refine wp_istore_n (ls' := [(0, .ref 0), (1, .int v1)]) [1, 0] dL_isOrderSo_4 rfl (by decide) ?_
  refine wp_aload_n 0 dL_isOrderSo_5 rfl ?_
  refine wp_iconst (v := (nI 0)) dL_isOrderSo_6 (by decide) ?_
  refine wp_cF (As := [.int (nI 0)]) (st := []) hN (mw_X6_count hs) gL_isOrderSo_X6_count rfl hy_X6_count rfl rfl (by decide) (by decide) (Nat.le_of_ble_eq_true rfl) rfl dL_isOrderSo_7 (fun v3 M4 hs => ?_)
  refine wp_aload_n 0 dL_isOrderSo_10 rfl ?_
  refine wp_iconst (v := (nI 1)) dL_isOrderSo_11 (by decide) ?_
  refine wp_cF (As := [.int (nI 1)]) (st := [.int v3]) hN (mw_X6_count hs) gL_isOrderSo_X6_count rfl hy_X6_count rfl rfl (by decide) (by decide) (Nat.le_of_ble_eq_true rfl) rfl dL_isOrderSo_12 (fun v5 M6 hs => ?_)
  refine wp_isub dL_isOrderSo_15 ?_
  refine wp_topi (fun y7 ey7 => ?_)
  have hs := hs y7 ey7
  refine wp_istore_n (ls' := [(0, .ref 0), (1, .int v1), (2, .int y7)]) [1, 2, 0] dL_isOrderSo_16 rfl (by decide) ?_
  refine wp_aload_n 0 dL_isOrderSo_17 rfl ?_
  refine wp_iconst (v := (nI 5)) dL_isOrderSo_18 (by decide) ?_
  refine wp_cF (As := [.int (nI 5)]) (st := []) hN (mw_X6_count hs) gL_isOrderSo_X6_count rfl hy_X6_count rfl rfl (by decide) (by decide) (Nat.le_of_ble_eq_true rfl) rfl dL_isOrderSo_19 (fun v8 M9 hs => ?_)
  refine wp_istore_n (ls' := [(0, .ref 0), (1, .int v1), (2, .int y7), (3, .int v8)]) [1, 2, 3, 0] dL_isOrderSo_22 rfl (by decide) ?_
  refine wp_aload_n 0 dL_isOrderSo_23 rfl ?_
  refine wp_iconst (v := (nI 0)) dL_isOrderSo_24 (by decide) ?_
  refine wp_cF (As := [.int (nI 0)]) (st := []) hN (mw_X6_order hs) gL_isOrderSo_X6_order rfl hy_X6_order rfl rfl (by decide) (by decide) (Nat.le_of_ble_eq_true rfl) rfl dL_isOrderSo_25 (fun v10 M11 hs => ?_)
  refine wp_istore (ls' := [(0, .ref 0), (1, .int v1), (2, .int y7), (3, .int v8), (4, .int v10)]) [1, 2, 3, 4, 0] dL_isOrderSo_28 rfl (by decide) ?_
  refine wp_iload_n 1 dL_isOrderSo_30 rfl ?_
  refine wp_if_ne (tgt := 74) dL_isOrderSo_31 (by decide) (fun c12 => ?_) (fun c12 => ?_)
  · have hs := hs.1 c12
    refine wp_aload_n 0 dL_isOrderSo_74 rfl ?_
    refine wp_iconst (v := (nI 3)) dL_isOrderSo_75 (by decide) ?_
    refine wp_cF (As := [.int (nI 3)]) (st := []) hN (mw_X6_count hs) gL_isOrderSo_X6_count rfl hy_X6_count rfl rfl (by decide) (by decide) (Nat.le_of_ble_eq_true rfl) rfl dL_isOrderSo_76 (fun v13 M14 hs => ?_)
    refine wp_iconst (v := (nI 1)) dL_isOrderSo_79 (by decide) ?_
    obtain ⟨K18, kK18, hs⟩ := hs
    have hK18 : ∀ (b16 : Int32) (M17 : Mem), K18 b16 M17 → WP E iL_isOrderSo 8 1 7 true 128 [(0, .ref 0), (1, .int v1), (2, .int y7), (3, .int v8), (4, .int v10)] [.int b16] σC N M17 Qf := by
      intro b16 M17 hs
      have hs := kK18 b16 M17 hs
      refine wp_istore (ls' := [(0, .ref 0), (1, .int v1), (2, .int y7), (3, .int v8), (4, .int v10), (5, .int b16)]) [1, 2, 3, 4, 5, 0] dL_isOrderSo_128 rfl (by decide) ?_
      refine wp_bipush (v := (nI 7)) dL_isOrderSo_130 (by decide) ?_
      refine wp_newI (N' := 7) (k' := 0) (n' := 0) (by decide +kernel) (by decide) (by decide) (by decide) hN2 rfl rfl dL_isOrderSo_132 ?_
      obtain ⟨M19, eM19⟩ : ∃ M2 : Mem, M2 = um M17 N (fun _ => 0) := ⟨_, rfl⟩
      rw [us_row hN, ← eM19]
      have hs := hs M19 eM19
      have hN1 : h46 (N + 1) := Nat.le_succ_of_le hN
      have hW : isW (N + 1) N := ⟨hN, Nat.lt_succ_self N⟩
      refine wp_astore (ls' := [(0, .ref 0), (1, .int v1), (2, .int y7), (3, .int v8), (4, .int v10), (5, .int b16), (6, .ref N)]) [1, 2, 3, 4, 5, 6, 0] dL_isOrderSo_134 rfl (by decide) ?_
      refine wp_iconst (v := (nI 0)) dL_isOrderSo_136 (by decide) ?_
      refine wp_istore (ls' := [(0, .ref 0), (1, .int v1), (2, .int y7), (3, .int v8), (4, .int v10), (5, .int b16), (6, .ref N), (7, .int (nI 0))]) [1, 2, 3, 4, 5, 6, 7, 0] dL_isOrderSo_137 rfl (by decide) ?_
      refine wp_sub (ls' := [(0, .ref 0), (1, .int v1), (2, .int y7), (3, .int v8), (4, .int v10), (5, .int b16), (6, .ref N), (7, .int (nI 0))]) [0, 1, 2, 3, 4, 5, 6, 7] rfl ?_
      refine lp_L_isOrderSo_139 hN1 hW (K := fun y25 M26 => w_X6_keep M26 (fr M26 (fun v27 M28 => w_X6_layOver M28 (fr M28 (fun v29 M30 => ∃ K34 : Int32 → Mem → Prop, (∀ (b32 : Int32) (M33 : Mem), K34 b32 M33 → w_X6_layOver M33 (fr M33 (fun v35 M36 => w_L_isOrderSo_217 N FU v1 y7 v8 b32 v27 (nI 0) M36 (fun y61 y62 y63 M64 => ∃ K68 : Int32 → Mem → Prop, (∀ (b66 : Int32) (M67 : Mem), K68 b66 M67 → ((b66 = 0 → Q (nI 0) M67) ∧ (¬ b66 = 0 → w_X6_restore M67 (fr M67 (fun v70 M71 => ((¬ v70 = v27 → Q (nI 0) M71) ∧ (v70 = v27 → w_X6_orders M71 (fr M71 (fun v73 M74 => ((¬ v73 = v1 → Q (nI 0) M74) ∧ (v73 = v1 → Q (nI 1) M74))))))))))) ∧ ((y62 = 0 → K68 (nI 0) M64) ∧ (¬ y62 = 0 → ((¬ y61 = 0 → K68 (nI 0) M64) ∧ (y61 = 0 → w_X6_orders M64 (fr M64 (fun v77 M78 => ((¬ v77 = (nI 1) → K68 (nI 0) M78) ∧ (v77 = (nI 1) → K68 (nI 1) M78)))))))))))) ∧ ((b16 = 0 → K34 (nI 0) M30) ∧ (¬ b16 = 0 → w_X6_orders M30 (fr M30 (fun v80 M81 => ((¬ v80 = v1 → K34 (nI 0) M81) ∧ (v80 = v1 → ((y7 = 0 → K34 (nI 1) M81) ∧ (¬ y7 = 0 → w_X6_order (nI 0) M81 (fr M81 (fun v84 M85 => ((¬ v84 = v10 → K34 (nI 0) M85) ∧ (v84 = v10 → K34 (nI 1) M85))))))))))))))))) (fun y25 M26 hs => ?_) FU _ _ hs
      refine wp_aload_n 0 dL_isOrderSo_162 rfl ?_
      refine wp_cF (As := []) (st := []) hN1 (mw_X6_keep hs) gL_isOrderSo_X6_keep rfl hy_X6_keep rfl rfl (by decide) (by decide) (Nat.le_of_ble_eq_true rfl) rfl dL_isOrderSo_163 (fun v27 M28 hs => ?_)
      refine wp_istore (ls' := [(0, .ref 0), (1, .int v1), (2, .int y7), (3, .int v8), (4, .int v10), (5, .int b16), (6, .ref N), (7, .int v27)]) [1, 2, 3, 4, 5, 6, 7, 0] dL_isOrderSo_166 rfl (by decide) ?_
      refine wp_aload_n 0 dL_isOrderSo_168 rfl ?_
      refine wp_cF (As := []) (st := []) hN1 (mw_X6_layOver hs) gL_isOrderSo_X6_layOver rfl hy_X6_layOver rfl rfl (by decide) (by decide) (Nat.le_of_ble_eq_true rfl) rfl dL_isOrderSo_169 (fun v29 M30 hs => ?_)
      refine wp_istore (ls' := [(0, .ref 0), (1, .int v1), (2, .int y7), (3, .int v8), (4, .int v10), (5, .int b16), (6, .ref N), (7, .int v27), (8, .int v29)]) [1, 2, 3, 4, 5, 6, 7, 8, 0] dL_isOrderSo_172 rfl (by decide) ?_
      refine wp_iload 5 dL_isOrderSo_174 rfl ?_
      obtain ⟨K34, kK34, hs⟩ := hs
      have hK34 : ∀ (b32 : Int32) (M33 : Mem), K34 b32 M33 → WP E iL_isOrderSo 8 0 0 true 206 [(0, .ref 0), (1, .int v1), (2, .int y7), (3, .int v8), (6, .ref N), (7, .int v27)] [.int b32] σC (N + 1) M33 Qf := by
        intro b32 M33 hs
        have hs := kK34 b32 M33 hs
        refine wp_istore (ls' := [(0, .ref 0), (1, .int v1), (2, .int y7), (3, .int v8), (5, .int b32), (6, .ref N), (7, .int v27)]) [1, 2, 3, 4, 0, 5, 6] dL_isOrderSo_206 rfl (by decide) ?_
        refine wp_aload_n 0 dL_isOrderSo_208 rfl ?_
        refine wp_cF (As := []) (st := []) hN1 (mw_X6_layOver hs) gL_isOrderSo_X6_layOver rfl hy_X6_layOver rfl rfl (by decide) (by decide) (Nat.le_of_ble_eq_true rfl) rfl dL_isOrderSo_209 (fun v35 M36 hs => ?_)
        refine wp_istore (ls' := [(0, .ref 0), (1, .int v1), (2, .int y7), (3, .int v8), (5, .int b32), (6, .ref N), (7, .int v27), (8, .int v35)]) [1, 2, 3, 4, 5, 6, 7, 0] dL_isOrderSo_212 rfl (by decide) ?_
        refine wp_iconst (v := (nI 0)) dL_isOrderSo_214 (by decide) ?_
        refine wp_istore (ls' := [(0, .ref 0), (1, .int v1), (2, .int y7), (3, .int v8), (5, .int b32), (6, .ref N), (7, .int v27), (8, .int v35), (9, .int (nI 0))]) [1, 2, 3, 4, 5, 6, 7, 8, 0] dL_isOrderSo_215 rfl (by decide) ?_
        refine wp_sub (ls' := [(0, .ref 0), (1, .int v1), (2, .int y7), (3, .int v8), (5, .int b32), (6, .ref N), (7, .int v27), (9, .int (nI 0))]) [0, 1, 2, 3, 4, 5, 6, 8] rfl ?_
        refine lp_L_isOrderSo_217 hN1 hW (K := fun y61 y62 y63 M64 => ∃ K68 : Int32 → Mem → Prop, (∀ (b66 : Int32) (M67 : Mem), K68 b66 M67 → ((b66 = 0 → Q (nI 0) M67) ∧ (¬ b66 = 0 → w_X6_restore M67 (fr M67 (fun v70 M71 => ((¬ v70 = v27 → Q (nI 0) M71) ∧ (v70 = v27 → w_X6_orders M71 (fr M71 (fun v73 M74 => ((¬ v73 = v1 → Q (nI 0) M74) ∧ (v73 = v1 → Q (nI 1) M74))))))))))) ∧ ((y62 = 0 → K68 (nI 0) M64) ∧ (¬ y62 = 0 → ((¬ y61 = 0 → K68 (nI 0) M64) ∧ (y61 = 0 → w_X6_orders M64 (fr M64 (fun v77 M78 => ((¬ v77 = (nI 1) → K68 (nI 0) M78) ∧ (v77 = (nI 1) → K68 (nI 1) M78))))))))) (fun y61 y62 y63 M64 hs => ?_) FU _ _ _ _ hs
        refine wp_iload 3 dL_isOrderSo_309 rfl ?_
        obtain ⟨K68, kK68, hs⟩ := hs
        have hK68 : ∀ (b66 : Int32) (M67 : Mem), K68 b66 M67 → WP E iL_isOrderSo 8 0 0 true 331 [(0, .ref 0), (1, .int v1), (7, .int v27)] [.int b66] σC (N + 1) M67 Qf := by
          intro b66 M67 hs
          have hs := kK68 b66 M67 hs
          refine wp_istore (ls' := [(0, .ref 0), (1, .int v1), (5, .int b66), (7, .int v27)]) [1, 2, 0, 3] dL_isOrderSo_331 rfl (by decide) ?_
          refine wp_iload 2 dL_isOrderSo_333 rfl ?_
          refine wp_if_eq (tgt := 359) dL_isOrderSo_335 (by decide) (fun c69 => ?_) (fun c69 => ?_)
          · have hs := hs.1 c69
            refine wp_iconst (v := (nI 0)) dL_isOrderSo_359 (by decide) ?_
            exact wp_ireturn rfl rfl dL_isOrderSo_360 (hQ1 _ _ hs)
          · have hs := hs.2 c69
            refine wp_aload_n 0 dL_isOrderSo_338 rfl ?_
            refine wp_cF (As := []) (st := []) hN1 (mw_X6_restore hs) gL_isOrderSo_X6_restore rfl hy_X6_restore rfl rfl (by decide) (by decide) (Nat.le_of_ble_eq_true rfl) rfl dL_isOrderSo_339 (fun v70 M71 hs => ?_)
            refine wp_iload 3 dL_isOrderSo_342 rfl ?_
            refine wp_icmp_ne (tgt := 359) dL_isOrderSo_344 (by decide) (fun c72 => ?_) (fun c72 => ?_)
            · have hs := hs.1 c72
              refine wp_iconst (v := (nI 0)) dL_isOrderSo_359 (by decide) ?_
              exact wp_ireturn rfl rfl dL_isOrderSo_360 (hQ1 _ _ hs)
            · have hs := hs.2 c72
              refine wp_aload_n 0 dL_isOrderSo_347 rfl ?_
              refine wp_cF (As := []) (st := []) hN1 (mw_X6_orders hs) gL_isOrderSo_X6_orders rfl hy_X6_orders rfl rfl (by decide) (by decide) (Nat.le_of_ble_eq_true rfl) rfl dL_isOrderSo_348 (fun v73 M74 hs => ?_)
              refine wp_iload_n 1 dL_isOrderSo_351 rfl ?_
              refine wp_icmp_ne (tgt := 359) dL_isOrderSo_352 (by decide) (fun c75 => ?_) (fun c75 => ?_)
              · have hs := hs.1 c75
                refine wp_iconst (v := (nI 0)) dL_isOrderSo_359 (by decide) ?_
                exact wp_ireturn rfl rfl dL_isOrderSo_360 (hQ1 _ _ hs)
              · have hs := hs.2 c75
                refine wp_iconst (v := (nI 1)) dL_isOrderSo_355 (by decide) ?_
                refine wp_goto (tgt := 360) dL_isOrderSo_356 (by decide) ?_
                exact wp_ireturn rfl rfl dL_isOrderSo_360 (hQ1 _ _ hs)
        refine wp_if_eq (tgt := 330) dL_isOrderSo_311 (by decide) (fun c65 => ?_) (fun c65 => ?_)
        · have hs := hs.1 c65
          refine wp_iconst (v := (nI 0)) dL_isOrderSo_330 (by decide) ?_
          refine wp_sub (ls' := [(0, .ref 0), (1, .int v1), (7, .int v27)]) [0, 1, 4] rfl ?_
          exact hK68 _ _ hs
        · have hs := hs.2 c65
          refine wp_iload_n 2 dL_isOrderSo_314 rfl ?_
          refine wp_if_ne (tgt := 330) dL_isOrderSo_315 (by decide) (fun c76 => ?_) (fun c76 => ?_)
          · have hs := hs.1 c76
            refine wp_iconst (v := (nI 0)) dL_isOrderSo_330 (by decide) ?_
            refine wp_sub (ls' := [(0, .ref 0), (1, .int v1), (7, .int v27)]) [0, 1, 4] rfl ?_
            exact hK68 _ _ hs
          · have hs := hs.2 c76
            refine wp_aload_n 0 dL_isOrderSo_318 rfl ?_
            refine wp_cF (As := []) (st := []) hN1 (mw_X6_orders hs) gL_isOrderSo_X6_orders rfl hy_X6_orders rfl rfl (by decide) (by decide) (Nat.le_of_ble_eq_true rfl) rfl dL_isOrderSo_319 (fun v77 M78 hs => ?_)
            refine wp_iconst (v := (nI 1)) dL_isOrderSo_322 (by decide) ?_
            refine wp_icmp_ne (tgt := 330) dL_isOrderSo_323 (by decide) (fun c79 => ?_) (fun c79 => ?_)
            · have hs := hs.1 c79
              refine wp_iconst (v := (nI 0)) dL_isOrderSo_330 (by decide) ?_
              refine wp_sub (ls' := [(0, .ref 0), (1, .int v1), (7, .int v27)]) [0, 1, 4] rfl ?_
              exact hK68 _ _ hs
            · have hs := hs.2 c79
              refine wp_iconst (v := (nI 1)) dL_isOrderSo_326 (by decide) ?_
              refine wp_goto (tgt := 331) dL_isOrderSo_327 (by decide) ?_
              refine wp_sub (ls' := [(0, .ref 0), (1, .int v1), (7, .int v27)]) [0, 1, 4] rfl ?_
              exact hK68 _ _ hs
      refine wp_if_eq (tgt := 205) dL_isOrderSo_176 (by decide) (fun c31 => ?_) (fun c31 => ?_)
      · have hs := hs.1 c31
        refine wp_iconst (v := (nI 0)) dL_isOrderSo_205 (by decide) ?_
        refine wp_sub (ls' := [(0, .ref 0), (1, .int v1), (2, .int y7), (3, .int v8), (6, .ref N), (7, .int v27)]) [0, 1, 2, 3, 6, 7] rfl ?_
        exact hK34 _ _ hs
      · have hs := hs.2 c31
        refine wp_aload_n 0 dL_isOrderSo_179 rfl ?_
        refine wp_cF (As := []) (st := []) hN1 (mw_X6_orders hs) gL_isOrderSo_X6_orders rfl hy_X6_orders rfl rfl (by decide) (by decide) (Nat.le_of_ble_eq_true rfl) rfl dL_isOrderSo_180 (fun v80 M81 hs => ?_)
        refine wp_iload_n 1 dL_isOrderSo_183 rfl ?_
        refine wp_icmp_ne (tgt := 205) dL_isOrderSo_184 (by decide) (fun c82 => ?_) (fun c82 => ?_)
        · have hs := hs.1 c82
          refine wp_iconst (v := (nI 0)) dL_isOrderSo_205 (by decide) ?_
          refine wp_sub (ls' := [(0, .ref 0), (1, .int v1), (2, .int y7), (3, .int v8), (6, .ref N), (7, .int v27)]) [0, 1, 2, 3, 6, 7] rfl ?_
          exact hK34 _ _ hs
        · have hs := hs.2 c82
          refine wp_iload_n 2 dL_isOrderSo_187 rfl ?_
          refine wp_if_eq (tgt := 201) dL_isOrderSo_188 (by decide) (fun c83 => ?_) (fun c83 => ?_)
          · have hs := hs.1 c83
            refine wp_iconst (v := (nI 1)) dL_isOrderSo_201 (by decide) ?_
            refine wp_goto (tgt := 206) dL_isOrderSo_202 (by decide) ?_
            refine wp_sub (ls' := [(0, .ref 0), (1, .int v1), (2, .int y7), (3, .int v8), (6, .ref N), (7, .int v27)]) [0, 1, 2, 3, 6, 7] rfl ?_
            exact hK34 _ _ hs
          · have hs := hs.2 c83
            refine wp_aload_n 0 dL_isOrderSo_191 rfl ?_
            refine wp_iconst (v := (nI 0)) dL_isOrderSo_192 (by decide) ?_
            refine wp_cF (As := [.int (nI 0)]) (st := []) hN1 (mw_X6_order hs) gL_isOrderSo_X6_order rfl hy_X6_order rfl rfl (by decide) (by decide) (Nat.le_of_ble_eq_true rfl) rfl dL_isOrderSo_193 (fun v84 M85 hs => ?_)
            refine wp_iload 4 dL_isOrderSo_196 rfl ?_
            refine wp_icmp_ne (tgt := 205) dL_isOrderSo_198 (by decide) (fun c86 => ?_) (fun c86 => ?_)
            · have hs := hs.1 c86
              refine wp_iconst (v := (nI 0)) dL_isOrderSo_205 (by decide) ?_
              refine wp_sub (ls' := [(0, .ref 0), (1, .int v1), (2, .int y7), (3, .int v8), (6, .ref N), (7, .int v27)]) [0, 1, 2, 3, 6, 7] rfl ?_
              exact hK34 _ _ hs
            · have hs := hs.2 c86
              refine wp_iconst (v := (nI 1)) dL_isOrderSo_201 (by decide) ?_
              refine wp_goto (tgt := 206) dL_isOrderSo_202 (by decide) ?_
              refine wp_sub (ls' := [(0, .ref 0), (1, .int v1), (2, .int y7), (3, .int v8), (6, .ref N), (7, .int v27)]) [0, 1, 2, 3, 6, 7] rfl ?_
              exact hK34 _ _ hs
    refine wp_icmp_ne (tgt := 127) dL_isOrderSo_80 (by decide) (fun c15 => ?_) (fun c15 => ?_)
    · have hs := hs.1 c15
      refine wp_iconst (v := (nI 0)) dL_isOrderSo_127 (by decide) ?_
      refine wp_sub (ls' := [(0, .ref 0), (1, .int v1), (2, .int y7), (3, .int v8), (4, .int v10)]) [0, 1, 2, 3, 4] rfl ?_
      exact hK18 _ _ hs
    · have hs := hs.2 c15
      refine wp_iload_n 3 dL_isOrderSo_83 rfl ?_
      refine wp_if_lt (tgt := 127) dL_isOrderSo_84 (by decide) (fun c87 => ?_) (fun c87 => ?_)
      · have hs := hs.1 c87
        refine wp_iconst (v := (nI 0)) dL_isOrderSo_127 (by decide) ?_
        refine wp_sub (ls' := [(0, .ref 0), (1, .int v1), (2, .int y7), (3, .int v8), (4, .int v10)]) [0, 1, 2, 3, 4] rfl ?_
        exact hK18 _ _ hs
      · have hs := hs.2 c87
        refine wp_iload_n 3 dL_isOrderSo_87 rfl ?_
        refine wp_iload_n 2 dL_isOrderSo_88 rfl ?_
        refine wp_icmp_gt (tgt := 127) dL_isOrderSo_89 (by decide) (fun c88 => ?_) (fun c88 => ?_)
        · have hs := hs.1 c88
          refine wp_iconst (v := (nI 0)) dL_isOrderSo_127 (by decide) ?_
          refine wp_sub (ls' := [(0, .ref 0), (1, .int v1), (2, .int y7), (3, .int v8), (4, .int v10)]) [0, 1, 2, 3, 4] rfl ?_
          exact hK18 _ _ hs
        · have hs := hs.2 c88
          refine wp_aload_n 0 dL_isOrderSo_92 rfl ?_
          refine wp_iload_n 2 dL_isOrderSo_93 rfl ?_
          refine wp_cF (As := [.int y7]) (st := []) hN (mw_X6_order hs) gL_isOrderSo_X6_order rfl hy_X6_order rfl rfl (by decide) (by decide) (Nat.le_of_ble_eq_true rfl) rfl dL_isOrderSo_94 (fun v89 M90 hs => ?_)
          refine wp_sipush (v := (-1005 : Int32)) dL_isOrderSo_97 (by decide) ?_
          refine wp_icmp_ne (tgt := 127) dL_isOrderSo_100 (by decide) (fun c91 => ?_) (fun c91 => ?_)
          · have hs := hs.1 c91
            refine wp_iconst (v := (nI 0)) dL_isOrderSo_127 (by decide) ?_
            refine wp_sub (ls' := [(0, .ref 0), (1, .int v1), (2, .int y7), (3, .int v8), (4, .int v10)]) [0, 1, 2, 3, 4] rfl ?_
            exact hK18 _ _ hs
          · have hs := hs.2 c91
            refine wp_iload_n 2 dL_isOrderSo_103 rfl ?_
            refine wp_if_gt (tgt := 123) dL_isOrderSo_104 (by decide) (fun c92 => ?_) (fun c92 => ?_)
            · have hs := hs.1 c92
              refine wp_iconst (v := (nI 1)) dL_isOrderSo_123 (by decide) ?_
              refine wp_goto (tgt := 128) dL_isOrderSo_124 (by decide) ?_
              refine wp_sub (ls' := [(0, .ref 0), (1, .int v1), (2, .int y7), (3, .int v8), (4, .int v10)]) [0, 1, 2, 3, 4] rfl ?_
              exact hK18 _ _ hs
            · have hs := hs.2 c92
              refine wp_iload_n 1 dL_isOrderSo_107 rfl ?_
              refine wp_iconst (v := (nI 1)) dL_isOrderSo_108 (by decide) ?_
              refine wp_icmp_ne (tgt := 127) dL_isOrderSo_109 (by decide) (fun c93 => ?_) (fun c93 => ?_)
              · have hs := hs.1 c93
                refine wp_iconst (v := (nI 0)) dL_isOrderSo_127 (by decide) ?_
                refine wp_sub (ls' := [(0, .ref 0), (1, .int v1), (2, .int y7), (3, .int v8), (4, .int v10)]) [0, 1, 2, 3, 4] rfl ?_
                exact hK18 _ _ hs
              · have hs := hs.2 c93
                refine wp_aload_n 0 dL_isOrderSo_112 rfl ?_
                refine wp_iconst (v := (nI 1)) dL_isOrderSo_113 (by decide) ?_
                refine wp_cF (As := [.int (nI 1)]) (st := []) hN (mw_X6_follow hs) gL_isOrderSo_X6_follow rfl hy_X6_follow rfl rfl (by decide) (by decide) (Nat.le_of_ble_eq_true rfl) rfl dL_isOrderSo_114 (fun v94 M95 hs => ?_)
                refine wp_sipush (v := (-1005 : Int32)) dL_isOrderSo_117 (by decide) ?_
                refine wp_icmp_ne (tgt := 127) dL_isOrderSo_120 (by decide) (fun c96 => ?_) (fun c96 => ?_)
                · have hs := hs.1 c96
                  refine wp_iconst (v := (nI 0)) dL_isOrderSo_127 (by decide) ?_
                  refine wp_sub (ls' := [(0, .ref 0), (1, .int v1), (2, .int y7), (3, .int v8), (4, .int v10)]) [0, 1, 2, 3, 4] rfl ?_
                  exact hK18 _ _ hs
                · have hs := hs.2 c96
                  refine wp_iconst (v := (nI 1)) dL_isOrderSo_123 (by decide) ?_
                  refine wp_goto (tgt := 128) dL_isOrderSo_124 (by decide) ?_
                  refine wp_sub (ls' := [(0, .ref 0), (1, .int v1), (2, .int y7), (3, .int v8), (4, .int v10)]) [0, 1, 2, 3, 4] rfl ?_
                  exact hK18 _ _ hs
  · have hs := hs.2 c12
    refine wp_aload_n 0 dL_isOrderSo_34 rfl ?_
    refine wp_iconst (v := (nI 3)) dL_isOrderSo_35 (by decide) ?_
    refine wp_cF (As := [.int (nI 3)]) (st := []) hN (mw_X6_count hs) gL_isOrderSo_X6_count rfl hy_X6_count rfl rfl (by decide) (by decide) (Nat.le_of_ble_eq_true rfl) rfl dL_isOrderSo_36 (fun v97 M98 hs => ?_)
    refine wp_if_ne (tgt := 72) dL_isOrderSo_39 (by decide) (fun c99 => ?_) (fun c99 => ?_)
    · have hs := hs.1 c99
      refine wp_iconst (v := (nI 0)) dL_isOrderSo_72 (by decide) ?_
      exact wp_ireturn rfl rfl dL_isOrderSo_73 (hQ0 _ _ hs)
    · have hs := hs.2 c99
      refine wp_iload_n 3 dL_isOrderSo_42 rfl ?_
      refine wp_sipush (v := (-1005 : Int32)) dL_isOrderSo_43 (by decide) ?_
      refine wp_icmp_ne (tgt := 72) dL_isOrderSo_46 (by decide) (fun c100 => ?_) (fun c100 => ?_)
      · have hs := hs.1 c100
        refine wp_iconst (v := (nI 0)) dL_isOrderSo_72 (by decide) ?_
        exact wp_ireturn rfl rfl dL_isOrderSo_73 (hQ0 _ _ hs)
      · have hs := hs.2 c100
        refine wp_iload 4 dL_isOrderSo_49 rfl ?_
        refine wp_sipush (v := (-1004 : Int32)) dL_isOrderSo_51 (by decide) ?_
        refine wp_icmp_ne (tgt := 72) dL_isOrderSo_54 (by decide) (fun c101 => ?_) (fun c101 => ?_)
        · have hs := hs.1 c101
          refine wp_iconst (v := (nI 0)) dL_isOrderSo_72 (by decide) ?_
          exact wp_ireturn rfl rfl dL_isOrderSo_73 (hQ0 _ _ hs)
        · have hs := hs.2 c101
          refine wp_aload_n 0 dL_isOrderSo_57 rfl ?_
          refine wp_iconst (v := (nI 2)) dL_isOrderSo_58 (by decide) ?_
          refine wp_cF (As := [.int (nI 2)]) (st := []) hN (mw_X6_follow hs) gL_isOrderSo_X6_follow rfl hy_X6_follow rfl rfl (by decide) (by decide) (Nat.le_of_ble_eq_true rfl) rfl dL_isOrderSo_59 (fun v102 M103 hs => ?_)
          refine wp_sipush (v := (-1004 : Int32)) dL_isOrderSo_62 (by decide) ?_
          refine wp_icmp_ne (tgt := 72) dL_isOrderSo_65 (by decide) (fun c104 => ?_) (fun c104 => ?_)
          · have hs := hs.1 c104
            refine wp_iconst (v := (nI 0)) dL_isOrderSo_72 (by decide) ?_
            exact wp_ireturn rfl rfl dL_isOrderSo_73 (hQ0 _ _ hs)
          · have hs := hs.2 c104
            refine wp_iconst (v := (nI 1)) dL_isOrderSo_68 (by decide) ?_
            refine wp_goto (tgt := 73) dL_isOrderSo_69 (by decide) ?_
            exact wp_ireturn rfl rfl dL_isOrderSo_73 (hQ0 _ _ hs)
abbrev iL_areOrdersSo : MI := (cL_areOrdersSo, 13, some .boolean, RL, yL_areOrdersSo, wsL_areOrdersSo)
theorem hy_L_areOrdersSo : yL_areOrdersSo.cls ≠ "java/lang/invoke/MethodHandle" ∧ yL_areOrdersSo.cls ≠ "java/lang/invoke/VarHandle" ∧ (parseMethodDescriptor yL_areOrdersSo.desc).map (fun d => d.parameters.length) = some 3 := by decide +kernel
def w_L_areOrdersSo_43 : Nat → Int32 → Int32 → Int32 → Int32 → Int32 → Int32 → Int32 → Int32 → Mem → (Int32 → Int32 → Int32 → Mem → Prop) → Prop
  | 0, _, _, _, _, _, _, _, _, _, _ => False
  | n + 1, x1, x2, x3, x4, x5, x6, x7, x8, M, K => ((x5 ≤ x8 → K x6 x7 x8 M) ∧ (¬ x5 ≤ x8 → w_X6_keep M (fr M (fun v14 M15 => w_X6_ofBend x8 (nI 2) M15 (fr M15 (fun v16 M17 => ∃ K21 : Int32 → Mem → Prop, (∀ (b19 : Int32) (M20 : Mem), K21 b19 M20 → w_X6_ofBend x8 (nI 2) M20 (fr M20 (fun v22 M23 => ∃ K28 : Int32 → Int32 → Mem → Prop, (∀ (x25 : Int32) (x26 : Int32) (M27 : Mem), K28 x25 x26 M27 → w_X6_restore M27 (fr M27 (fun v29 M30 => ∀ y31 : Int32, y31 = x8 + (nI 1) → w_L_areOrdersSo_43 n x1 x2 x3 x4 x5 x25 x26 y31 M30 K))) ∧ ((¬ v22 = 0 → K28 x6 x7 M23) ∧ (v22 = 0 → w_X6_bend x8 M23 (fr M23 (fun v32 M33 => w_X6_orders M33 (fr M33 (fun v34 M35 => ∀ y36 : Int32, y36 = (x6 + v34) → ∃ K40 : Int32 → Mem → Prop, (∀ (b38 : Int32) (M39 : Mem), K40 b38 M39 → K28 y36 b38 M39) ∧ ((x7 = 0 → K40 (nI 0) M35) ∧ (¬ x7 = 0 → ((v34 = 0 → K40 (nI 1) M35) ∧ (¬ v34 = 0 → ((x8 = x2 → K40 (nI 1) M35) ∧ (¬ x8 = x2 → ((x8 = x1 → K40 (nI 0) M35) ∧ (¬ x8 = x1 → w_X6_mustWait x1 x2 M35 (fr M35 (fun v44 M45 => ((¬ v44 = (nI 1) → K40 (nI 0) M45) ∧ (v44 = (nI 1) → K40 (nI 1) M45))))))))))))))))))))) ∧ ((¬ v16 = (nI 2) → K21 (nI 0) M17) ∧ (v16 = (nI 2) → w_X6_layOver M17 (fr M17 (fun v47 M48 => K21 v47 M48))))))))))
set_option maxHeartbeats 4000000 in
set_option maxRecDepth 100000 in
theorem lp_L_areOrdersSo_43 {E : EN} {N : Nat} {x1 : Int32} {x2 : Int32} {x3 : Int32} {x4 : Int32} {x5 : Int32} {Qf : PST} {K : Int32 → Int32 → Int32 → Mem → Prop} (hN : h46 N) (hK : ∀ (z6 : Int32) (z7 : Int32) (z8 : Int32) (M : Mem), K z6 z7 z8 M → WP E iL_areOrdersSo 8 0 0 true 159 [(1, .int x1), (2, .int x2), (3, .int x3), (4, .int x4), (6, .int z6), (7, .int z7)] [] σC N M Qf) : ∀ (nn : Nat) (x6 : Int32) (x7 : Int32) (x8 : Int32) (M : Mem), w_L_areOrdersSo_43 nn x1 x2 x3 x4 x5 x6 x7 x8 M K → WP E iL_areOrdersSo 8 0 0 true 43 [(0, .ref 0), (1, .int x1), (2, .int x2), (3, .int x3), (4, .int x4), (5, .int x5), (6, .int x6), (7, .int x7), (8, .int x8)] [] σC N M Qf := by
  intro nn
  induction nn with
  | zero => intro x6 x7 x8 M hs; exact hs.elim
  | succ n ih =>
    intro x6 x7 x8 M hs
    unfold w_L_areOrdersSo_43 at hs
    refine wp_iload 8 dL_areOrdersSo_43 rfl ?_
    refine wp_iload 5 dL_areOrdersSo_45 rfl ?_
    refine wp_icmp_ge (tgt := 159) dL_areOrdersSo_47 (by decide) (fun c13 => ?_) (fun c13 => ?_)
    · have hs := hs.1 c13
      refine wp_sub (ls' := [(1, .int x1), (2, .int x2), (3, .int x3), (4, .int x4), (6, .int x6), (7, .int x7)]) [1, 2, 3, 4, 6, 7] rfl ?_
      exact hK _ _ _ _ hs
    · have hs := hs.2 c13
      refine wp_aload_n 0 dL_areOrdersSo_50 rfl ?_
      refine wp_cF (As := []) (st := []) hN (mw_X6_keep hs) gL_areOrdersSo_X6_keep rfl hy_X6_keep rfl rfl (by decide) (by decide) (Nat.le_of_ble_eq_true rfl) rfl dL_areOrdersSo_51 (fun v14 M15 hs => ?_)
      refine wp_istore (ls' := [(0, .ref 0), (1, .int x1), (2, .int x2), (3, .int x3), (4, .int x4), (5, .int x5), (6, .int x6), (7, .int x7), (8, .int x8), (9, .int v14)]) [1, 2, 3, 4, 5, 6, 7, 8, 9, 0] dL_areOrdersSo_54 rfl (by decide) ?_
      refine wp_aload_n 0 dL_areOrdersSo_56 rfl ?_
      refine wp_iload 8 dL_areOrdersSo_57 rfl ?_
      refine wp_iconst (v := (nI 2)) dL_areOrdersSo_59 (by decide) ?_
      refine wp_cF (As := [.int x8, .int (nI 2)]) (st := []) hN (mw_X6_ofBend hs) gL_areOrdersSo_X6_ofBend rfl hy_X6_ofBend rfl rfl (by decide) (by decide) (Nat.le_of_ble_eq_true rfl) rfl dL_areOrdersSo_60 (fun v16 M17 hs => ?_)
      refine wp_iconst (v := (nI 2)) dL_areOrdersSo_63 (by decide) ?_
      obtain ⟨K21, kK21, hs⟩ := hs
      have hK21 : ∀ (b19 : Int32) (M20 : Mem), K21 b19 M20 → WP E iL_areOrdersSo 8 0 0 true 75 [(0, .ref 0), (1, .int x1), (2, .int x2), (3, .int x3), (4, .int x4), (5, .int x5), (6, .int x6), (7, .int x7), (8, .int x8)] [.int b19] σC N M20 Qf := by
        intro b19 M20 hs
        have hs := kK21 b19 M20 hs
        refine wp_istore (ls' := [(0, .ref 0), (1, .int x1), (2, .int x2), (3, .int x3), (4, .int x4), (5, .int x5), (6, .int x6), (7, .int x7), (8, .int x8), (10, .int b19)]) [1, 2, 3, 4, 5, 6, 7, 8, 9, 0] dL_areOrdersSo_75 rfl (by decide) ?_
        refine wp_aload_n 0 dL_areOrdersSo_77 rfl ?_
        refine wp_iload 8 dL_areOrdersSo_78 rfl ?_
        refine wp_iconst (v := (nI 2)) dL_areOrdersSo_80 (by decide) ?_
        refine wp_cF (As := [.int x8, .int (nI 2)]) (st := []) hN (mw_X6_ofBend hs) gL_areOrdersSo_X6_ofBend rfl hy_X6_ofBend rfl rfl (by decide) (by decide) (Nat.le_of_ble_eq_true rfl) rfl dL_areOrdersSo_81 (fun v22 M23 hs => ?_)
        obtain ⟨K28, kK28, hs⟩ := hs
        have hK28 : ∀ (x25 : Int32) (x26 : Int32) (M27 : Mem), K28 x25 x26 M27 → WP E iL_areOrdersSo 8 0 0 true 147 [(0, .ref 0), (1, .int x1), (2, .int x2), (3, .int x3), (4, .int x4), (5, .int x5), (6, .int x25), (7, .int x26), (8, .int x8)] [] σC N M27 Qf := by
          intro x25 x26 M27 hs
          have hs := kK28 x25 x26 M27 hs
          refine wp_aload_n 0 dL_areOrdersSo_147 rfl ?_
          refine wp_cF (As := []) (st := []) hN (mw_X6_restore hs) gL_areOrdersSo_X6_restore rfl hy_X6_restore rfl rfl (by decide) (by decide) (Nat.le_of_ble_eq_true rfl) rfl dL_areOrdersSo_148 (fun v29 M30 hs => ?_)
          refine wp_istore (ls' := [(0, .ref 0), (1, .int x1), (2, .int x2), (3, .int x3), (4, .int x4), (5, .int x5), (6, .int x25), (7, .int x26), (8, .int x8), (11, .int v29)]) [1, 2, 3, 4, 5, 6, 7, 8, 9, 0] dL_areOrdersSo_151 rfl (by decide) ?_
          obtain ⟨y31, ey31⟩ : ∃ y : Int32, y = x8 + (nI 1) := ⟨_, rfl⟩
          have hs := hs y31 ey31
          refine wp_iinc (v := y31) (ls' := [(0, .ref 0), (1, .int x1), (2, .int x2), (3, .int x3), (4, .int x4), (5, .int x5), (6, .int x25), (7, .int x26), (8, .int y31), (11, .int v29)]) 8 [1, 2, 3, 4, 5, 6, 7, 8, 0, 9] dL_areOrdersSo_153 rfl (by rw [ey31]; rfl) rfl (by decide) ?_
          refine wp_goto (tgt := 43) dL_areOrdersSo_156 (by decide) ?_
          refine wp_sub (ls' := [(0, .ref 0), (1, .int x1), (2, .int x2), (3, .int x3), (4, .int x4), (5, .int x5), (6, .int x25), (7, .int x26), (8, .int y31)]) [0, 1, 2, 3, 4, 5, 6, 7, 8] rfl ?_
          exact ih _ _ _ _ hs
        refine wp_if_ne (tgt := 147) dL_areOrdersSo_84 (by decide) (fun c24 => ?_) (fun c24 => ?_)
        · have hs := hs.1 c24
          refine wp_sub (ls' := [(0, .ref 0), (1, .int x1), (2, .int x2), (3, .int x3), (4, .int x4), (5, .int x5), (6, .int x6), (7, .int x7), (8, .int x8)]) [0, 1, 2, 3, 4, 5, 6, 7, 8] rfl ?_
          exact hK28 _ _ _ hs
        · have hs := hs.2 c24
          refine wp_aload_n 0 dL_areOrdersSo_87 rfl ?_
          refine wp_iload 8 dL_areOrdersSo_88 rfl ?_
          refine wp_cF (As := [.int x8]) (st := []) hN (mw_X6_bend hs) gL_areOrdersSo_X6_bend rfl hy_X6_bend rfl rfl (by decide) (by decide) (Nat.le_of_ble_eq_true rfl) rfl dL_areOrdersSo_90 (fun v32 M33 hs => ?_)
          refine wp_istore (ls' := [(0, .ref 0), (1, .int x1), (2, .int x2), (3, .int x3), (4, .int x4), (5, .int x5), (6, .int x6), (7, .int x7), (8, .int x8), (10, .int b19), (11, .int v32)]) [1, 2, 3, 4, 5, 6, 7, 8, 9, 10, 0] dL_areOrdersSo_93 rfl (by decide) ?_
          refine wp_aload_n 0 dL_areOrdersSo_95 rfl ?_
          refine wp_cF (As := []) (st := []) hN (mw_X6_orders hs) gL_areOrdersSo_X6_orders rfl hy_X6_orders rfl rfl (by decide) (by decide) (Nat.le_of_ble_eq_true rfl) rfl dL_areOrdersSo_96 (fun v34 M35 hs => ?_)
          refine wp_istore (ls' := [(0, .ref 0), (1, .int x1), (2, .int x2), (3, .int x3), (4, .int x4), (5, .int x5), (6, .int x6), (7, .int x7), (8, .int x8), (10, .int b19), (11, .int v32), (12, .int v34)]) [1, 2, 3, 4, 5, 6, 7, 8, 9, 10, 11, 0] dL_areOrdersSo_99 rfl (by decide) ?_
          refine wp_iload 6 dL_areOrdersSo_101 rfl ?_
          refine wp_iload 11 dL_areOrdersSo_103 rfl ?_
          refine wp_iadd dL_areOrdersSo_105 ?_
          refine wp_topi (fun y36 ey36 => ?_)
          have hs := hs y36 ey36
          refine wp_istore (ls' := [(0, .ref 0), (1, .int x1), (2, .int x2), (3, .int x3), (4, .int x4), (5, .int x5), (6, .int y36), (7, .int x7), (8, .int x8), (10, .int b19), (11, .int v32), (12, .int v34)]) [1, 2, 3, 4, 5, 6, 0, 7, 8, 9, 10, 11] dL_areOrdersSo_106 rfl (by decide) ?_
          refine wp_iload 7 dL_areOrdersSo_108 rfl ?_
          obtain ⟨K40, kK40, hs⟩ := hs
          have hK40 : ∀ (b38 : Int32) (M39 : Mem), K40 b38 M39 → WP E iL_areOrdersSo 8 0 0 true 145 [(0, .ref 0), (1, .int x1), (2, .int x2), (3, .int x3), (4, .int x4), (5, .int x5), (6, .int y36), (8, .int x8)] [.int b38] σC N M39 Qf := by
            intro b38 M39 hs
            have hs := kK40 b38 M39 hs
            refine wp_istore (ls' := [(0, .ref 0), (1, .int x1), (2, .int x2), (3, .int x3), (4, .int x4), (5, .int x5), (6, .int y36), (7, .int b38), (8, .int x8)]) [1, 2, 3, 4, 5, 6, 7, 0, 8] dL_areOrdersSo_145 rfl (by decide) ?_
            refine wp_sub (ls' := [(0, .ref 0), (1, .int x1), (2, .int x2), (3, .int x3), (4, .int x4), (5, .int x5), (6, .int y36), (7, .int b38), (8, .int x8)]) [0, 1, 2, 3, 4, 5, 6, 7, 8] rfl ?_
            exact hK28 _ _ _ hs
          refine wp_if_eq (tgt := 144) dL_areOrdersSo_110 (by decide) (fun c37 => ?_) (fun c37 => ?_)
          · have hs := hs.1 c37
            refine wp_iconst (v := (nI 0)) dL_areOrdersSo_144 (by decide) ?_
            refine wp_sub (ls' := [(0, .ref 0), (1, .int x1), (2, .int x2), (3, .int x3), (4, .int x4), (5, .int x5), (6, .int y36), (8, .int x8)]) [0, 1, 2, 3, 4, 5, 6, 8] rfl ?_
            exact hK40 _ _ hs
          · have hs := hs.2 c37
            refine wp_iload 11 dL_areOrdersSo_113 rfl ?_
            refine wp_if_eq (tgt := 140) dL_areOrdersSo_115 (by decide) (fun c41 => ?_) (fun c41 => ?_)
            · have hs := hs.1 c41
              refine wp_iconst (v := (nI 1)) dL_areOrdersSo_140 (by decide) ?_
              refine wp_goto (tgt := 145) dL_areOrdersSo_141 (by decide) ?_
              refine wp_sub (ls' := [(0, .ref 0), (1, .int x1), (2, .int x2), (3, .int x3), (4, .int x4), (5, .int x5), (6, .int y36), (8, .int x8)]) [0, 1, 2, 3, 4, 5, 6, 8] rfl ?_
              exact hK40 _ _ hs
            · have hs := hs.2 c41
              refine wp_iload 8 dL_areOrdersSo_118 rfl ?_
              refine wp_iload_n 2 dL_areOrdersSo_120 rfl ?_
              refine wp_icmp_eq (tgt := 140) dL_areOrdersSo_121 (by decide) (fun c42 => ?_) (fun c42 => ?_)
              · have hs := hs.1 c42
                refine wp_iconst (v := (nI 1)) dL_areOrdersSo_140 (by decide) ?_
                refine wp_goto (tgt := 145) dL_areOrdersSo_141 (by decide) ?_
                refine wp_sub (ls' := [(0, .ref 0), (1, .int x1), (2, .int x2), (3, .int x3), (4, .int x4), (5, .int x5), (6, .int y36), (8, .int x8)]) [0, 1, 2, 3, 4, 5, 6, 8] rfl ?_
                exact hK40 _ _ hs
              · have hs := hs.2 c42
                refine wp_iload 8 dL_areOrdersSo_124 rfl ?_
                refine wp_iload_n 1 dL_areOrdersSo_126 rfl ?_
                refine wp_icmp_eq (tgt := 144) dL_areOrdersSo_127 (by decide) (fun c43 => ?_) (fun c43 => ?_)
                · have hs := hs.1 c43
                  refine wp_iconst (v := (nI 0)) dL_areOrdersSo_144 (by decide) ?_
                  refine wp_sub (ls' := [(0, .ref 0), (1, .int x1), (2, .int x2), (3, .int x3), (4, .int x4), (5, .int x5), (6, .int y36), (8, .int x8)]) [0, 1, 2, 3, 4, 5, 6, 8] rfl ?_
                  exact hK40 _ _ hs
                · have hs := hs.2 c43
                  refine wp_aload_n 0 dL_areOrdersSo_130 rfl ?_
                  refine wp_iload_n 1 dL_areOrdersSo_131 rfl ?_
                  refine wp_iload_n 2 dL_areOrdersSo_132 rfl ?_
                  refine wp_cF (As := [.int x1, .int x2]) (st := []) hN (mw_X6_mustWait hs) gL_areOrdersSo_X6_mustWait rfl hy_X6_mustWait rfl rfl (by decide) (by decide) (Nat.le_of_ble_eq_true rfl) rfl dL_areOrdersSo_133 (fun v44 M45 hs => ?_)
                  refine wp_iconst (v := (nI 1)) dL_areOrdersSo_136 (by decide) ?_
                  refine wp_icmp_ne (tgt := 144) dL_areOrdersSo_137 (by decide) (fun c46 => ?_) (fun c46 => ?_)
                  · have hs := hs.1 c46
                    refine wp_iconst (v := (nI 0)) dL_areOrdersSo_144 (by decide) ?_
                    refine wp_sub (ls' := [(0, .ref 0), (1, .int x1), (2, .int x2), (3, .int x3), (4, .int x4), (5, .int x5), (6, .int y36), (8, .int x8)]) [0, 1, 2, 3, 4, 5, 6, 8] rfl ?_
                    exact hK40 _ _ hs
                  · have hs := hs.2 c46
                    refine wp_iconst (v := (nI 1)) dL_areOrdersSo_140 (by decide) ?_
                    refine wp_goto (tgt := 145) dL_areOrdersSo_141 (by decide) ?_
                    refine wp_sub (ls' := [(0, .ref 0), (1, .int x1), (2, .int x2), (3, .int x3), (4, .int x4), (5, .int x5), (6, .int y36), (8, .int x8)]) [0, 1, 2, 3, 4, 5, 6, 8] rfl ?_
                    exact hK40 _ _ hs
      refine wp_icmp_ne (tgt := 74) dL_areOrdersSo_64 (by decide) (fun c18 => ?_) (fun c18 => ?_)
      · have hs := hs.1 c18
        refine wp_iconst (v := (nI 0)) dL_areOrdersSo_74 (by decide) ?_
        refine wp_sub (ls' := [(0, .ref 0), (1, .int x1), (2, .int x2), (3, .int x3), (4, .int x4), (5, .int x5), (6, .int x6), (7, .int x7), (8, .int x8)]) [0, 1, 2, 3, 4, 5, 6, 7, 8] rfl ?_
        exact hK21 _ _ hs
      · have hs := hs.2 c18
        refine wp_aload_n 0 dL_areOrdersSo_67 rfl ?_
        refine wp_cF (As := []) (st := []) hN (mw_X6_layOver hs) gL_areOrdersSo_X6_layOver rfl hy_X6_layOver rfl rfl (by decide) (by decide) (Nat.le_of_ble_eq_true rfl) rfl dL_areOrdersSo_68 (fun v47 M48 hs => ?_)
        refine wp_goto (tgt := 75) dL_areOrdersSo_71 (by decide) ?_
        refine wp_sub (ls' := [(0, .ref 0), (1, .int x1), (2, .int x2), (3, .int x3), (4, .int x4), (5, .int x5), (6, .int x6), (7, .int x7), (8, .int x8)]) [0, 1, 2, 3, 4, 5, 6, 7, 8] rfl ?_
        exact hK21 _ _ hs
def w_L_areOrdersSo (a : Int32) (b : Int32) (M : Mem) (Q : Int32 → Mem → Prop) : Prop := w_X6_orders M (fr M (fun v1 M2 => w_X6_mustWait a b M2 (fr M2 (fun v3 M4 => w_X6_count (nI 0) M4 (fr M4 (fun v5 M6 => w_X6_count (nI 1) M6 (fr M6 (fun v7 M8 => ∃ K12 : Int32 → Mem → Prop, (∀ (b10 : Int32) (M11 : Mem), K12 b10 M11 → w_L_areOrdersSo_43 FU a b v1 v3 v5 b10 (nI 1) (nI 0) M11 (fun y49 y50 y51 M52 => ∃ K55 : Mem → Prop, (∀ (M54 : Mem), K55 M54 → ((¬ y49 = v1 → Q (nI 0) M54) ∧ (y49 = v1 → Q (nI 1) M54))) ∧ ((a = b → K55 M52) ∧ (¬ a = b → ((¬ v3 = (-1001 : Int32) → ((¬ y49 = v1 → Q (nI 0) M52) ∧ (y49 = v1 → ∃ K62 : Int32 → Mem → Prop, (∀ (b60 : Int32) (M61 : Mem), K62 b60 M61 → ((¬ v3 = b60 → Q (nI 0) M61) ∧ (v3 = b60 → Q (nI 1) M61))) ∧ ((¬ v1 = 0 → ((y50 = 0 → K62 (nI 0) M52) ∧ (¬ y50 = 0 → K62 (nI 1) M52))) ∧ (v1 = 0 → K62 (-1004 : Int32) M52))))) ∧ (v3 = (-1001 : Int32) → K55 M52)))))) ∧ ((¬ v7 = v5 → K12 (nI 0) M8) ∧ (v7 = v5 → K12 (nI 1) M8))))))))))
set_option maxHeartbeats 4000000 in
set_option maxRecDepth 100000 in
theorem mw_L_areOrdersSo {E : EN} {N : Nat} {a : Int32} {b : Int32} {M : Mem} {Q : Int32 → Mem → Prop} (hN : h46 N) (hs : w_L_areOrdersSo a b M Q) : MW E iL_areOrdersSo 8 0 0 true [.ref 0, .int a, .int b] σC N M (qI σC N Q) := by
  refine mw_intro (ls := [(0, .ref 0), (1, .int a), (2, .int b)]) rfl (by decide +kernel) rfl rfl (Nat.le_of_ble_eq_true rfl) ?_
  have hQ : ∀ x M, Q x M → (qI σC N Q) (some (.int x)) σC N M := fun _ _ h => ⟨_, rfl, rfl, rfl, h⟩
  generalize qI σC N Q = Qf at hQ ⊢
  unfold w_L_areOrdersSo at hs
  refine wp_aload_n 0 dL_areOrdersSo_0 rfl ?_
  refine wp_cF (As := []) (st := []) hN (mw_X6_orders hs) gL_areOrdersSo_X6_orders rfl hy_X6_orders rfl rfl (by decide) (by decide) (Nat.le_of_ble_eq_true rfl) rfl dL_areOrdersSo_1 (fun v1 M2 hs => ?_)
  refine wp_istore_n (ls' := [(0, .ref 0), (1, .int a), (2, .int b), (3, .int v1)]) [1, 2, 3, 0] dL_areOrdersSo_4 rfl (by decide) ?_
  refine wp_aload_n 0 dL_areOrdersSo_5 rfl ?_
  refine wp_iload_n 1 dL_areOrdersSo_6 rfl ?_
  refine wp_iload_n 2 dL_areOrdersSo_7 rfl ?_
  refine wp_cF (As := [.int a, .int b]) (st := []) hN (mw_X6_mustWait hs) gL_areOrdersSo_X6_mustWait rfl hy_X6_mustWait rfl rfl (by decide) (by decide) (Nat.le_of_ble_eq_true rfl) rfl dL_areOrdersSo_8 (fun v3 M4 hs => ?_)
  refine wp_istore (ls' := [(0, .ref 0), (1, .int a), (2, .int b), (3, .int v1), (4, .int v3)]) [1, 2, 3, 4, 0] dL_areOrdersSo_11 rfl (by decide) ?_
  refine wp_aload_n 0 dL_areOrdersSo_13 rfl ?_
  refine wp_iconst (v := (nI 0)) dL_areOrdersSo_14 (by decide) ?_
  refine wp_cF (As := [.int (nI 0)]) (st := []) hN (mw_X6_count hs) gL_areOrdersSo_X6_count rfl hy_X6_count rfl rfl (by decide) (by decide) (Nat.le_of_ble_eq_true rfl) rfl dL_areOrdersSo_15 (fun v5 M6 hs => ?_)
  refine wp_istore (ls' := [(0, .ref 0), (1, .int a), (2, .int b), (3, .int v1), (4, .int v3), (5, .int v5)]) [1, 2, 3, 4, 5, 0] dL_areOrdersSo_18 rfl (by decide) ?_
  refine wp_aload_n 0 dL_areOrdersSo_20 rfl ?_
  refine wp_iconst (v := (nI 1)) dL_areOrdersSo_21 (by decide) ?_
  refine wp_cF (As := [.int (nI 1)]) (st := []) hN (mw_X6_count hs) gL_areOrdersSo_X6_count rfl hy_X6_count rfl rfl (by decide) (by decide) (Nat.le_of_ble_eq_true rfl) rfl dL_areOrdersSo_22 (fun v7 M8 hs => ?_)
  refine wp_iload 5 dL_areOrdersSo_25 rfl ?_
  obtain ⟨K12, kK12, hs⟩ := hs
  have hK12 : ∀ (b10 : Int32) (M11 : Mem), K12 b10 M11 → WP E iL_areOrdersSo 8 0 0 true 35 [(0, .ref 0), (1, .int a), (2, .int b), (3, .int v1), (4, .int v3), (5, .int v5)] [.int b10] σC N M11 Qf := by
    intro b10 M11 hs
    have hs := kK12 b10 M11 hs
    refine wp_istore (ls' := [(0, .ref 0), (1, .int a), (2, .int b), (3, .int v1), (4, .int v3), (5, .int v5), (6, .int b10)]) [1, 2, 3, 4, 5, 6, 0] dL_areOrdersSo_35 rfl (by decide) ?_
    refine wp_iconst (v := (nI 1)) dL_areOrdersSo_37 (by decide) ?_
    refine wp_istore (ls' := [(0, .ref 0), (1, .int a), (2, .int b), (3, .int v1), (4, .int v3), (5, .int v5), (6, .int b10), (7, .int (nI 1))]) [1, 2, 3, 4, 5, 6, 7, 0] dL_areOrdersSo_38 rfl (by decide) ?_
    refine wp_iconst (v := (nI 0)) dL_areOrdersSo_40 (by decide) ?_
    refine wp_istore (ls' := [(0, .ref 0), (1, .int a), (2, .int b), (3, .int v1), (4, .int v3), (5, .int v5), (6, .int b10), (7, .int (nI 1)), (8, .int (nI 0))]) [1, 2, 3, 4, 5, 6, 7, 8, 0] dL_areOrdersSo_41 rfl (by decide) ?_
    refine wp_sub (ls' := [(0, .ref 0), (1, .int a), (2, .int b), (3, .int v1), (4, .int v3), (5, .int v5), (6, .int b10), (7, .int (nI 1)), (8, .int (nI 0))]) [0, 1, 2, 3, 4, 5, 6, 7, 8] rfl ?_
    refine lp_L_areOrdersSo_43 hN (K := fun y49 y50 y51 M52 => ∃ K55 : Mem → Prop, (∀ (M54 : Mem), K55 M54 → ((¬ y49 = v1 → Q (nI 0) M54) ∧ (y49 = v1 → Q (nI 1) M54))) ∧ ((a = b → K55 M52) ∧ (¬ a = b → ((¬ v3 = (-1001 : Int32) → ((¬ y49 = v1 → Q (nI 0) M52) ∧ (y49 = v1 → ∃ K62 : Int32 → Mem → Prop, (∀ (b60 : Int32) (M61 : Mem), K62 b60 M61 → ((¬ v3 = b60 → Q (nI 0) M61) ∧ (v3 = b60 → Q (nI 1) M61))) ∧ ((¬ v1 = 0 → ((y50 = 0 → K62 (nI 0) M52) ∧ (¬ y50 = 0 → K62 (nI 1) M52))) ∧ (v1 = 0 → K62 (-1004 : Int32) M52))))) ∧ (v3 = (-1001 : Int32) → K55 M52))))) (fun y49 y50 y51 M52 hs => ?_) FU _ _ _ _ hs
    refine wp_iload_n 0 dL_areOrdersSo_159 rfl ?_
    refine wp_iload_n 1 dL_areOrdersSo_160 rfl ?_
    obtain ⟨K55, kK55, hs⟩ := hs
    have hK55 : ∀ (M54 : Mem), K55 M54 → WP E iL_areOrdersSo 8 0 0 true 172 [(3, .int v1), (6, .int y49)] [] σC N M54 Qf := by
      intro M54 hs
      have hs := kK55 M54 hs
      refine wp_iload 1 dL_areOrdersSo_172 rfl ?_
      refine wp_iload_n 0 dL_areOrdersSo_174 rfl ?_
      refine wp_icmp_ne (tgt := 182) dL_areOrdersSo_175 (by decide) (fun c56 => ?_) (fun c56 => ?_)
      · have hs := hs.1 c56
        refine wp_iconst (v := (nI 0)) dL_areOrdersSo_182 (by decide) ?_
        exact wp_ireturn rfl rfl dL_areOrdersSo_183 (hQ _ _ hs)
      · have hs := hs.2 c56
        refine wp_iconst (v := (nI 1)) dL_areOrdersSo_178 (by decide) ?_
        refine wp_goto (tgt := 183) dL_areOrdersSo_179 (by decide) ?_
        exact wp_ireturn rfl rfl dL_areOrdersSo_183 (hQ _ _ hs)
    refine wp_icmp_eq (tgt := 172) dL_areOrdersSo_161 (by decide) (fun c53 => ?_) (fun c53 => ?_)
    · have hs := hs.1 c53
      refine wp_sub (ls' := [(3, .int v1), (6, .int y49)]) [2, 4] rfl ?_
      exact hK55 _ hs
    · have hs := hs.2 c53
      refine wp_iload 3 dL_areOrdersSo_164 rfl ?_
      refine wp_sipush (v := (-1001 : Int32)) dL_areOrdersSo_166 (by decide) ?_
      refine wp_icmp_ne (tgt := 184) dL_areOrdersSo_169 (by decide) (fun c57 => ?_) (fun c57 => ?_)
      · have hs := hs.1 c57
        refine wp_iload 4 dL_areOrdersSo_184 rfl ?_
        refine wp_iload_n 2 dL_areOrdersSo_186 rfl ?_
        refine wp_icmp_ne (tgt := 219) dL_areOrdersSo_187 (by decide) (fun c58 => ?_) (fun c58 => ?_)
        · have hs := hs.1 c58
          refine wp_iconst (v := (nI 0)) dL_areOrdersSo_219 (by decide) ?_
          exact wp_ireturn rfl rfl dL_areOrdersSo_220 (hQ _ _ hs)
        · have hs := hs.2 c58
          refine wp_iload 3 dL_areOrdersSo_190 rfl ?_
          refine wp_iload_n 2 dL_areOrdersSo_192 rfl ?_
          obtain ⟨K62, kK62, hs⟩ := hs
          have hK62 : ∀ (b60 : Int32) (M61 : Mem), K62 b60 M61 → WP E iL_areOrdersSo 8 0 0 true 212 [] [.int b60, .int v3] σC N M61 Qf := by
            intro b60 M61 hs
            have hs := kK62 b60 M61 hs
            refine wp_icmp_ne (tgt := 219) dL_areOrdersSo_212 (by decide) (fun c63 => ?_) (fun c63 => ?_)
            · have hs := hs.1 c63
              refine wp_iconst (v := (nI 0)) dL_areOrdersSo_219 (by decide) ?_
              exact wp_ireturn rfl rfl dL_areOrdersSo_220 (hQ _ _ hs)
            · have hs := hs.2 c63
              refine wp_iconst (v := (nI 1)) dL_areOrdersSo_215 (by decide) ?_
              refine wp_goto (tgt := 220) dL_areOrdersSo_216 (by decide) ?_
              exact wp_ireturn rfl rfl dL_areOrdersSo_220 (hQ _ _ hs)
          refine wp_if_ne (tgt := 202) dL_areOrdersSo_193 (by decide) (fun c59 => ?_) (fun c59 => ?_)
          · have hs := hs.1 c59
            refine wp_iload 5 dL_areOrdersSo_202 rfl ?_
            refine wp_if_eq (tgt := 211) dL_areOrdersSo_204 (by decide) (fun c64 => ?_) (fun c64 => ?_)
            · have hs := hs.1 c64
              refine wp_iconst (v := (nI 0)) dL_areOrdersSo_211 (by decide) ?_
              refine wp_sub (ls' := []) [] rfl ?_
              exact hK62 _ _ hs
            · have hs := hs.2 c64
              refine wp_iconst (v := (nI 1)) dL_areOrdersSo_207 (by decide) ?_
              refine wp_goto (tgt := 212) dL_areOrdersSo_208 (by decide) ?_
              refine wp_sub (ls' := []) [] rfl ?_
              exact hK62 _ _ hs
          · have hs := hs.2 c59
            refine wp_sipush (v := (-1004 : Int32)) dL_areOrdersSo_196 (by decide) ?_
            refine wp_goto (tgt := 212) dL_areOrdersSo_199 (by decide) ?_
            refine wp_sub (ls' := []) [] rfl ?_
            exact hK62 _ _ hs
      · have hs := hs.2 c57
        refine wp_sub (ls' := [(3, .int v1), (6, .int y49)]) [2, 4] rfl ?_
        exact hK55 _ hs
  refine wp_icmp_ne (tgt := 34) dL_areOrdersSo_27 (by decide) (fun c9 => ?_) (fun c9 => ?_)
  · have hs := hs.1 c9
    refine wp_iconst (v := (nI 0)) dL_areOrdersSo_34 (by decide) ?_
    refine wp_sub (ls' := [(0, .ref 0), (1, .int a), (2, .int b), (3, .int v1), (4, .int v3), (5, .int v5)]) [0, 1, 2, 3, 4, 5] rfl ?_
    exact hK12 _ _ hs
  · have hs := hs.2 c9
    refine wp_iconst (v := (nI 1)) dL_areOrdersSo_30 (by decide) ?_
    refine wp_goto (tgt := 35) dL_areOrdersSo_31 (by decide) ?_
    refine wp_sub (ls' := [(0, .ref 0), (1, .int a), (2, .int b), (3, .int v1), (4, .int v3), (5, .int v5)]) [0, 1, 2, 3, 4, 5] rfl ?_
    exact hK12 _ _ hs
