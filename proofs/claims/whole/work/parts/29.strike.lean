/-! the class's strikes -/
theorem nI_or (a b : Nat) : nI a ||| nI b = nI (a ||| b) := by
  apply Int32.toBitVec.inj
  show BitVec.ofNat 32 a ||| BitVec.ofNat 32 b = BitVec.ofNat 32 (a ||| b)
  exact BitVec.ofNat_or.symm
theorem bit_set8 : ∀ b, b < 8 → nI 1 <<< (nI b &&& 31) = nI (2 ^ b) := by decide +kernel
theorem bsB_t (f : Nat → Bool) : ∀ n j, (bsB f n).testBit j = (decide (j < n) && f j) := by
  intro n
  induction n with
  | zero => intro j; simp [bsB]
  | succ n ih =>
    intro j
    show (if f n then bsB f n ||| 2 ^ n else bsB f n).testBit j = _
    by_cases c : f n = true
    · rw [if_pos c, Nat.testBit_or, ih, Nat.testBit_two_pow]
      by_cases e : j = n
      · subst e; simp [c]
      · have e1 : decide (n = j) = false := by simp; omega
        have e2 : decide (j < n + 1) = decide (j < n) := by
          rw [decide_eq_decide]; omega
        rw [e1, e2, Bool.or_false]
    · rw [if_neg c, ih]
      by_cases e : j = n
      · subst e
        have c' : f j = false := by simpa using c
        simp [c']
      · have e2 : decide (j < n + 1) = decide (j < n) := by
          rw [decide_eq_decide]; omega
        rw [e2]
theorem bsB_or (f g : Nat → Bool) (n : Nat) : bsB f n ||| bsB g n = bsB (fun j => f j || g j) n := by
  apply Nat.eq_of_testBit_eq
  intro j
  rw [Nat.testBit_or, bsB_t, bsB_t, bsB_t, Bool.and_or_distrib_left]
theorem bsB_lt (f : Nat → Bool) : ∀ n, bsB f n < 2 ^ n := by
  intro n
  induction n with
  | zero => exact Nat.one_pos
  | succ n ih =>
    show (if f n then bsB f n ||| 2 ^ n else bsB f n) < 2 ^ (n + 1)
    have h2 : 2 ^ n < 2 ^ (n + 1) := Nat.pow_lt_pow_right (by decide) (Nat.lt_succ_self n)
    split
    · exact Nat.or_lt_two_pow (Nat.lt_trans ih h2) h2
    · exact Nat.lt_trans ih h2
theorem bsB_0 (f : Nat → Bool) (n : Nat) : bsB f n = 0 ↔ ∀ j, j < n → f j = false := by
  refine ⟨fun h j hj => ?_, fun h => ?_⟩
  · have := bsB_t f n j
    rw [h] at this
    simp [hj] at this
    exact this
  · apply Nat.eq_of_testBit_eq
    intro j
    rw [bsB_t]
    by_cases c : j < n
    · simp [h j c]
    · simp [c]
theorem anyF_iff (n : Nat) (p : Nat → Bool) : anyF n p = true ↔ ∃ f, f ≤ n ∧ p f = true := by
  unfold anyF
  rw [List.any_eq_true]
  refine ⟨fun ⟨f, h1, h2⟩ => ⟨f, ?_, h2⟩, fun ⟨f, h1, h2⟩ => ⟨f, List.mem_range.mpr (by omega), h2⟩⟩
  have := List.mem_range.mp h1
  omega
theorem anyF_bs (n : Nat) (p : Nat → Bool) : anyF n p = decide (bsB p (n + 1) ≠ 0) := by
  by_cases c : anyF n p = true
  · rw [c]
    obtain ⟨f, h1, h2⟩ := (anyF_iff n p).mp c
    symm
    rw [decide_eq_true_eq]
    intro h
    have := (bsB_0 p (n + 1)).mp h f (by omega)
    rw [this] at h2
    cases h2
  · have c' : anyF n p = false := by simpa using c
    rw [c']
    symm
    rw [decide_eq_false_iff_not]
    intro h
    apply h
    rw [bsB_0]
    intro j hj
    by_cases e : p j = true
    · exact absurd ((anyF_iff n p).mpr ⟨j, by omega, e⟩) c
    · simpa using e
theorem lq_fl {M : Mem} {h n0 : Nat} {B : Nat → BX} {x1 x2 y1 y2 : Int} {K : Int32 → Int32 → Mem → Prop} (hB : BXM M h n0 B) (hbd : BBd n0 B) (hn : n0 ≤ 7) (b1 : -100 ≤ x1 ∧ x1 ≤ 100) (b2 : -100 ≤ x2 ∧ x2 ≤ 100) (b3 : -100 ≤ y1 ∧ y1 ≤ 100) (b4 : -100 ≤ y2 ∧ y2 ≤ 100)
    (hK : K (nI (bsB (fun f => hitB (B f) x1 x2 y1 y2) (n0 + 1))) (nI (n0 + 1)) M) : ∀ (n j : Nat), j ≤ n0 + 1 → n0 + 2 ≤ n + j → w_X3_flangesIn_6 h n (iI x1) (iI x2) (iI y1) (iI y2) (nI (bsB (fun f => hitB (B f) x1 x2 y1 y2) j)) (nI j) M K := by
  intro n
  induction n with
  | zero => intro j h1 h2; omega
  | succ n ih =>
    intro j h1 h2
    unfold w_X3_flangesIn_6
    rw [hB.1]
    refine ⟨fun z => ?_, fun z => ?_⟩
    · rw [nI_leI (by omega) (by omega)] at z
      have e : j = n0 + 1 := by omega
      subst e
      exact hK
    · rw [nI_leI (by omega) (by omega)] at z
      refine ⟨fun y => ?_, fun _ => ?_⟩
      · rw [nI_leI (by decide) (by omega)] at y; omega
      have hv : vp_in (nI j) 8 := vp_in_nI (by omega) (by decide)
      obtain ⟨e1, e2, e3, e4⟩ := hB.2 j (by omega)
      obtain ⟨d1, d2, d3, d4⟩ := hbd j (by omega)
      rw [nI_clamp (by omega), e1, e2, e3, e4]
      have hp : (fun f => hitB (B f) x1 x2 y1 y2) j = (decide (¬ (B j).1.2 < x1) && decide (¬ x2 < (B j).1.1) && decide (¬ y2 < (B j).2.1) && decide (¬ (B j).2.2 < y1) && decide (y1 ≤ y2)) := rfl
      have hN : hitB (B j) x1 x2 y1 y2 = false → ∀ y : Int32, y = nI j + nI 1 → w_X3_flangesIn_6 h n (iI x1) (iI x2) (iI y1) (iI y2) (nI (bsB (fun f => hitB (B f) x1 x2 y1 y2) j)) y M K := by
        rintro hh _ rfl
        rw [nI_add]
        have := ih (j + 1) (by omega) (by omega)
        rw [show bsB (fun f => hitB (B f) x1 x2 y1 y2) (j + 1) = bsB (fun f => hitB (B f) x1 x2 y1 y2) j from if_neg (by show ¬ hitB (B j) x1 x2 y1 y2 = true; rw [hh]; decide)] at this
        exact this
      have hY : hitB (B j) x1 x2 y1 y2 = true → ∀ y : Int32, y = (nI (bsB (fun f => hitB (B f) x1 x2 y1 y2) j)) ||| (nI 1 <<< (nI j &&& 31)) → ∀ y' : Int32, y' = nI j + nI 1 → w_X3_flangesIn_6 h n (iI x1) (iI x2) (iI y1) (iI y2) y y' M K := by
        rintro hh _ rfl _ rfl
        rw [nI_add, bit_set8 j (by omega), nI_or]
        have := ih (j + 1) (by omega) (by omega)
        rw [show bsB (fun f => hitB (B f) x1 x2 y1 y2) (j + 1) = bsB (fun f => hitB (B f) x1 x2 y1 y2) j ||| 2 ^ j from if_pos hh] at this
        exact this
      generalize nI (bsB (fun f => hitB (B f) x1 x2 y1 y2) j) = acc at hN hY ⊢
      have n10 : (nI 1 = 0) = False := eq_false (by decide)
      have n00 : (nI 0 = 0) = True := eq_true (by decide)
      have hvt := eq_true hv
      unfold hitB at hN hY
      rw [iI_lt (by omega) (by omega), iI_le (by omega) (by omega), iI_le (by omega) (by omega), iI_le (by omega) (by omega), iI_lt (by omega) (by omega)]
      by_cases c1 : (B j).1.2 < x1 <;> by_cases c2 : (B j).1.1 ≤ x2 <;> by_cases c3 : (B j).2.1 ≤ y2 <;> by_cases c4 : y1 ≤ (B j).2.2 <;> by_cases c5 : y2 < y1 <;> simp only [c1, c2, c3, c4, c5, hvt, n10, n00, not_true_eq_false, not_false_eq_true, true_implies, false_implies, and_true, true_and, if_true, if_false, implies_true]
      all_goals first
        | exact hN (by
            simp only [Bool.and_eq_false_iff, decide_eq_false_iff_not]
            omega)
        | exact hY (by
            simp only [Bool.and_eq_true, decide_eq_true_eq]
            omega)
