/-! the class's reason -/
theorem pw_flangesIn {M : Mem} {h n0 : Nat} {B : Nat → BX} {x1 x2 y1 y2 : Int} {Q : Int32 → Mem → Prop} (hB : BXM M h n0 B) (hbd : BBd n0 B) (hn : n0 ≤ 7) (b1 : -100 ≤ x1 ∧ x1 ≤ 100) (b2 : -100 ≤ x2 ∧ x2 ≤ 100) (b3 : -100 ≤ y1 ∧ y1 ≤ 100) (b4 : -100 ≤ y2 ∧ y2 ≤ 100)
    (hQ : Q (nI (bsB (fun f => hitB (B f) x1 x2 y1 y2) (n0 + 1))) M) : w_X3_flangesIn h (iI x1) (iI x2) (iI y1) (iI y2) M Q := by
  unfold w_X3_flangesIn
  exact lq_fl (K := fun y134 _ M136 => Q y134 M136) hB hbd hn b1 b2 b3 b4 hQ FU 0 (Nat.zero_le _) (by show _ ≤ 1000 + 0; omega)
theorem pw_inLower {M : Mem} {p n0 : Nat} {B : Nat → BX} {Q : Int32 → Mem → Prop} (hB : BXM M (p + 1) n0 B) (hbd : BBd n0 B) (hn : n0 ≤ 7) (hQ : Q (nI (bsB (fun f => lowB (B f)) (n0 + 1))) M) : w_X2_inLower p M Q := by
  unfold w_X2_inLower
  exact pw_flangesIn (x1 := 1) (x2 := 3) (y1 := -3) (y2 := -1) hB hbd hn (by decide) (by decide) (by decide) (by decide) hQ
theorem pw_inUpper {M : Mem} {p r n0 : Nat} {S : Nat → Nat} {B : Nat → BX} {Q : Int32 → Mem → Prop} (hC : CC M r S) (hS : CV S) (hB : BXM M (p + 1) n0 B) (hbd : BBd n0 B) (hn : n0 ≤ 7) (hQ : Q (nI (bsB (fun f => uppB S (B f)) (n0 + 1))) M) : w_X2_inUpper p r M Q := by
  unfold w_X2_inUpper
  obtain ⟨_, _, _, s1, s2, _⟩ := hS
  have e0 : M (r + 2) 0 = nI (S 18) := hC.2.2.2 0 (by decide)
  have e1 : M (r + 2) 1 = nI (S 19) := hC.2.2.2 1 (by decide)
  refine pw_settingAt (by decide) ?_
  rw [e0]
  refine pw_settingAt (by decide) ?_
  rw [e1]
  rintro _ rfl
  have em : (if nI (S 18) < nI 2 then nI (S 18) else nI 2) = iI (min 2 (S 18 : Int)) := by
    by_cases c : S 18 < 2
    · rw [if_pos (by rw [nI_ltI (by omega) (by decide)]; exact c), show min 2 (S 18 : Int) = (S 18 : Int) by omega, iI_nat]
    · rw [if_neg (by rw [nI_ltI (by omega) (by decide)]; exact c), show min 2 (S 18 : Int) = 2 by omega]
      rfl
  rw [em, nI_add, ← iI_nat (1 + S 19), ← iI_nat (S 18)]
  refine pw_flangesIn (x1 := 1) (x2 := 1) (y1 := 1) hB hbd hn (by decide) (by decide) (by decide) (by omega) ?_
  refine pw_flangesIn (x1 := 1) (y1 := 3) hB hbd hn (by decide) (by omega) (by decide) (by omega) ?_
  rw [nI_or, bsB_or]
  have : (fun f => uppB S (B f)) = fun j => hitB (B j) 1 1 1 (min 2 (S 18 : Int)) || hitB (B j) 1 (↑(1 + S 19)) 3 (↑(S 18)) := by
    funext f
    unfold uppB
    rw [show ((1 + S 19 : Nat) : Int) = 1 + (S 19 : Int) by omega]
  rw [← this]
  exact hQ
def swB (b : Nat) (B : Nat → BX) (f : Nat) : BX := if f ≤ b then ((B f).2, (-(B f).1.2, -(B f).1.1)) else B f
theorem bxS_sw (S : Nat → Nat) (b d v : Nat) : bxS S b d v = swB b (bxF S b d v) := rfl
def SWK (M : Mem) (h n j : Nat) (B : Nat → BX) : Prop := ∀ f, f ≤ n → M (h + 1) f = iI (swB j B f).1.1 ∧ M (h + 2) f = iI (swB j B f).1.2 ∧ M (h + 3) f = iI (swB j B f).2.1 ∧ M (h + 4) f = iI (swB j B f).2.2
def swj (j : Nat) (B : Nat → BX) (f : Nat) : BX := if f < j then ((B f).2, (-(B f).1.2, -(B f).1.1)) else B f
theorem lq_sw {M0 : Mem} {h n0 b : Nat} {B : Nat → BX} {K : Int32 → Mem → Prop} (hb : b ≤ n0) (hn : n0 ≤ 7) (hK : ∀ (x : Int32) (M : Mem), (∀ a, a ≤ h ∨ h + 4 < a → M a = M0 a) → BXM M h n0 (swj (b + 1) B) → K x M) :
    ∀ (n j : Nat) (M : Mem), j ≤ b + 1 → b + 2 ≤ n + j → (∀ a, a ≤ h ∨ h + 4 < a → M a = M0 a) → BXM M h n0 (swj j B) → w_X3_swingUp_2 h n (nI b) (nI j) M K := by
  intro n
  induction n with
  | zero => intro j M h1 h2; omega
  | succ n ih =>
    intro j M h1 h2 hM hB
    unfold w_X3_swingUp_2
    refine ⟨fun z => ?_, fun z => ?_⟩
    · rw [nI_ltI (by omega) (by omega)] at z
      have e : j = b + 1 := by omega
      subst e
      exact hK _ M hM hB
    · rw [nI_ltI (by omega) (by omega)] at z
      refine ⟨fun y => ?_, fun _ => ?_⟩
      · rw [nI_leI (by decide) (by omega)] at y; omega
      have hv : vp_in (nI j) 8 := vp_in_nI (by omega) (by decide)
      rw [nI_clamp (by omega)]
      obtain ⟨e1, e2, e3, e4⟩ := hB.2 j (by omega)
      have ej : swj j B j = B j := if_neg (Nat.lt_irrefl _)
      rw [ej] at e1 e2 e3 e4
      refine ⟨hv, ?_⟩
      rintro _ rfl
      refine ⟨hv, ?_⟩
      rintro _ rfl
      refine ⟨hv, hv, ?_⟩
      rintro M1 q1
      refine ⟨hv, hv, ?_⟩
      rintro M2 q2
      refine ⟨hv, ?_⟩
      rintro M3 q3
      refine ⟨hv, ?_⟩
      rintro M4 q4 _ rfl
      rw [nI_add]
      have fr : ∀ a, a ≤ h ∨ h + 4 < a → M4 a = M a := fun a ha => by rw [q4, um_n (by omega), q3, um_n (by omega), q2, um_n (by omega), q1, um_n (by omega)]
      have g1 : M4 (h + 1) = upd (M (h + 1)) j (iI (B j).2.1) := by rw [q4, um_n (by omega), q3, um_n (by omega), q2, um_n (by omega), q1, um_s, e3]
      have g2 : M4 (h + 2) = upd (M (h + 2)) j (iI (B j).2.2) := by rw [q4, um_n (by omega), q3, um_n (by omega), q2, um_s, q1, um_n (by omega), um_n (by omega), e4]
      have g3 : M4 (h + 3) = upd (M (h + 3)) j (iI (-(B j).1.2)) := by rw [q4, um_n (by omega), q3, um_s, q2, um_n (by omega), q1, um_n (by omega), e2, iI_neg]
      have g4 : M4 (h + 4) = upd (M (h + 4)) j (iI (-(B j).1.1)) := by rw [q4, um_s, q3, um_n (by omega), q2, um_n (by omega), q1, um_n (by omega), e1, iI_neg]
      refine ih (j + 1) M4 (by omega) (by omega) (fun a ha => by rw [fr a ha, hM a ha]) ⟨?_, fun f hf => ?_⟩
      · rw [fr h (by omega)]; exact hB.1
      · rw [g1, g2, g3, g4]
        by_cases c : f = j
        · subst c
          have : swj (f + 1) B f = ((B f).2, (-(B f).1.2, -(B f).1.1)) := if_pos (by omega)
          rw [this, upd_s, upd_s, upd_s, upd_s]
          exact ⟨rfl, rfl, rfl, rfl⟩
        · have : swj (j + 1) B f = swj j B f := by
            unfold swj
            by_cases q : f < j
            · rw [if_pos q, if_pos (by omega)]
            · rw [if_neg q, if_neg (by omega)]
          rw [this, upd_n c, upd_n c, upd_n c, upd_n c]
          exact hB.2 f hf
theorem pw_swing {M : Mem} {h n0 b : Nat} {B : Nat → BX} {Q : Mem → Prop} (hB : BXM M h n0 B) (hb : b ≤ n0) (hn : n0 ≤ 7) (hQ : ∀ M', (∀ a, a ≤ h ∨ h + 4 < a → M' a = M a) → BXM M' h n0 (swB b B) → Q M') : w_X3_swingUp h (nI b) M Q := by
  unfold w_X3_swingUp
  have e0 : swj 0 B = B := by funext f; exact if_neg (Nat.not_lt_zero _)
  have e1 : swj (b + 1) B = swB b B := by
    funext f
    unfold swj swB
    by_cases c : f ≤ b
    · rw [if_pos c, if_pos (by omega)]
    · rw [if_neg c, if_neg (by omega)]
  refine lq_sw (M0 := M) (B := B) hb hn (fun x M' hM hB' => hQ M' hM (by rw [← e1]; exact hB')) FU 0 M (Nat.zero_le _) (by show _ ≤ 1000 + 0; omega) (fun _ _ => rfl) (by rw [e0]; exact hB)
theorem bit_shr : ∀ m, m < 256 → ∀ k, k < 10 → (nI m >>> (nI k &&& 31) = 0 ↔ m < 2 ^ k) := by decide +kernel
def slfB (n : Nat) (B : Nat → BX) (f : Nat) : Bool := anyF n (fun g => decide (f + 2 ≤ g) && hitB (B g) (B f).1.1 (B f).1.2 (B f).2.1 (B f).2.2)
theorem slf_sh (n : Nat) (B : Nat → BX) (f : Nat) : slfB n B f = true ↔ ¬ bsB (fun g => hitB (B g) (B f).1.1 (B f).1.2 (B f).2.1 (B f).2.2) (n + 1) < 2 ^ (f + 2) := by
  unfold slfB
  rw [anyF_iff]
  refine ⟨fun ⟨g, g1, g2⟩ hlt => ?_, fun h => ?_⟩
  · simp only [Bool.and_eq_true, decide_eq_true_eq] at g2
    have t := Nat.testBit_lt_two_pow (Nat.lt_of_lt_of_le hlt (Nat.pow_le_pow_right (by decide) g2.1))
    rw [bsB_t, g2.2] at t
    simp at t
    omega
  · refine Classical.byContradiction fun hn => h ?_
    refine Nat.lt_pow_two_of_testBit _ (fun i hi => ?_)
    rw [bsB_t]
    by_cases c : i < n + 1
    · by_cases q : hitB (B i) (B f).1.1 (B f).1.2 (B f).2.1 (B f).2.2 = true
      · exact absurd ⟨i, by omega, by simp only [Bool.and_eq_true, decide_eq_true_eq]; exact ⟨hi, q⟩⟩ hn
      · simp [q]
    · simp [c]
theorem lq_self {M : Mem} {h n0 : Nat} {B : Nat → BX} {Q : Int32 → Mem → Prop} {K : Int32 → Mem → Prop} (hB : BXM M h n0 B) (hbd : BBd n0 B) (hn : n0 ≤ 7) (hQ : anyF n0 (slfB n0 B) = true → Q (nI 1) M) (hK : ∀ x, anyF n0 (slfB n0 B) = false → K x M) :
    ∀ (n j : Nat), j ≤ n0 + 1 → n0 + 2 ≤ n + j → (∀ f, f < j → slfB n0 B f = false) → w_X3_strikesItself_2 h n (nI j) M Q K := by
  intro n
  induction n with
  | zero => intro j h1 h2; omega
  | succ n ih =>
    intro j h1 h2 hs
    unfold w_X3_strikesItself_2
    rw [hB.1]
    refine ⟨fun z => ?_, fun z => ?_⟩
    · rw [nI_leI (by omega) (by omega)] at z
      refine hK _ ?_
      by_cases c : anyF n0 (slfB n0 B) = true
      · obtain ⟨f, f1, f2⟩ := (anyF_iff _ _).mp c
        rw [hs f (by omega)] at f2
        cases f2
      · simpa using c
    · rw [nI_leI (by omega) (by omega)] at z
      refine ⟨fun y => ?_, fun _ => ?_⟩
      · rw [nI_leI (by decide) (by omega)] at y; omega
      have hv : vp_in (nI j) 8 := vp_in_nI (by omega) (by decide)
      rw [nI_clamp (by omega)]
      obtain ⟨e1, e2, e3, e4⟩ := hB.2 j (by omega)
      obtain ⟨d1, d2, d3, d4⟩ := hbd j (by omega)
      rw [e1, e2, e3, e4]
      refine ⟨hv, hv, hv, hv, ?_⟩
      refine pw_flangesIn hB hbd hn (by omega) (by omega) (by omega) (by omega) ?_
      have hsh := slf_sh n0 B j
      have hm : bsB (fun g => hitB (B g) (B j).1.1 (B j).1.2 (B j).2.1 (B j).2.2) (n0 + 1) < 256 := Nat.lt_of_lt_of_le (bsB_lt _ _) (Nat.pow_le_pow_right (n := 2) (by decide) (show n0 + 1 ≤ 8 by omega))
      rw [nI_add]
      generalize bsB (fun g => hitB (B g) (B j).1.1 (B j).1.2 (B j).2.1 (B j).2.2) (n0 + 1) = m at hsh hm ⊢
      rw [bit_shr m hm (j + 2) (by omega)]
      refine ⟨fun y => ?_, fun y => ?_⟩
      · rintro _ rfl
        rw [nI_add]
        refine ih (j + 1) (by omega) (by omega) (fun f hf => ?_)
        by_cases c : f = j
        · subst c
          by_cases q : slfB n0 B f = true
          · exact absurd y (hsh.mp q)
          · simpa using q
        · exact hs f (by omega)
      · exact hQ ((anyF_iff _ _).mpr ⟨j, by omega, hsh.mpr y⟩)
theorem pw_strikesItself {M : Mem} {h n0 : Nat} {B : Nat → BX} {Q : Int32 → Mem → Prop} (hB : BXM M h n0 B) (hbd : BBd n0 B) (hn : n0 ≤ 7) (h1 : anyF n0 (slfB n0 B) = true → Q (nI 1) M) (h0 : anyF n0 (slfB n0 B) = false → Q (nI 0) M) : w_X3_strikesItself h M Q := by
  unfold w_X3_strikesItself
  exact lq_self (K := fun _ M8 => Q (nI 0) M8) hB hbd hn h1 (fun _ => h0) FU 0 (Nat.zero_le _) (by show _ ≤ 1000 + 0; omega) (fun f hf => by omega)
theorem lq_clamp {M : Mem} {r d : Nat} {S : Nat → Nat} {K : Int32 → Int32 → Mem → Prop} {T : Nat} (hC : CC M r S) (hS : CV S) (hd : d < 128) (hK : ∀ x, K (nI T) x M) :
    ∀ (n k j s : Nat), j ≤ S 0 → S 0 + 1 ≤ n + j → S 0 + 1 ≤ k + j → T = s + clF S d k j → w_X4_clampedLength_13 r n (nI d) (nI s) (nI j) M K := by
  intro n
  have h7 := hS.1.2
  induction n with
  | zero => intro k j s h1 h2; omega
  | succ n ih =>
    intro k j s h1 h2 h3 hT
    obtain ⟨k', hk'⟩ : ∃ k', k = k' + 1 := ⟨k - 1, by omega⟩
    subst hk'
    have hT : T = s + if j < S 0 ∧ d.testBit j = false then S (1 + (j + 1)) + clF S d k' (j + 1) else 0 := hT
    unfold w_X4_clampedLength_13
    rw [hC.1]
    refine ⟨fun z => ?_, fun z => ?_⟩
    · rw [nI_leI (by omega) (by omega)] at z
      rw [if_neg (by omega)] at hT
      rw [show nI s = nI T by rw [hT]; rfl]
      exact hK _
    · rw [nI_leI (by omega) (by omega)] at z
      rw [bit_get d hd j (by omega)]
      by_cases c : d.testBit j = true
      · rw [if_pos c]
        refine ⟨fun _ => ?_, fun y => absurd y (by decide)⟩
        rw [if_neg (by rw [c]; simp)] at hT
        rw [show nI s = nI T by rw [hT]; rfl]
        exact hK _
      · rw [if_neg c]
        refine ⟨fun y => absurd rfl y, fun _ => ?_⟩
        rw [nI_add]
        refine pw_lengthAt (by omega) ?_
        rw [hC.2.2.1 (j + 1) (by omega)]
        rintro _ rfl _ rfl
        rw [nI_add]
        refine ih k' (j + 1) _ (by omega) (by omega) (by omega) ?_
        rw [if_pos ⟨by omega, by simpa using c⟩] at hT
        omega
theorem clF_bd {S : Nat → Nat} (hS : CV S) (d : Nat) : ∀ k j, clF S d k j ≤ 9 * k := by
  intro k
  induction k with
  | zero => intro j; exact Nat.le_refl _
  | succ k ih =>
    intro j
    show (if j < S 0 ∧ d.testBit j = false then S (1 + (j + 1)) + clF S d k (j + 1) else 0) ≤ _
    split
    · rename_i h
      have := ih (j + 1)
      have := hS.2.1 (j + 1) (by omega)
      omega
    · omega
theorem clm_bd {S : Nat → Nat} (hS : CV S) {b d : Nat} (hb : b < S 0) : clm S b d ≤ 81 := by
  have := clF_bd hS d 8 (b + 1)
  have := hS.2.1 (b + 1) (by omega)
  unfold clm
  omega
theorem pw_clamped {M : Mem} {r b d : Nat} {S : Nat → Nat} {Q : Int32 → Mem → Prop} (hC : CC M r S) (hS : CV S) (hd : d < 128) (hb : b < S 0) (hQ : Q (nI (clm S b d)) M) : w_X4_clampedLength r (nI b) (nI d) M Q := by
  unfold w_X4_clampedLength
  have h7 := hS.1.2
  rw [nI_add]
  refine pw_lengthAt (by omega) ?_
  rw [hC.2.2.1 (b + 1) (by omega)]
  rintro _ rfl
  exact lq_clamp (K := fun y10 _ M12 => Q y10 M12) (T := clm S b d) hC hS hd (fun _ => hQ) FU 8 (b + 1) _ (by omega) (by show _ ≤ 1000 + _; omega) (by omega) rfl
theorem any_or (n : Nat) (p q : Nat → Bool) : anyF n (fun f => p f || q f) = true ↔ bsB p (n + 1) ≠ 0 ∨ bsB q (n + 1) ≠ 0 := by
  rw [anyF_iff]
  have h1 := anyF_bs n p
  have h2 := anyF_bs n q
  have i1 := anyF_iff n p
  have i2 := anyF_iff n q
  rw [h1, decide_eq_true_eq] at i1
  rw [h2, decide_eq_true_eq] at i2
  rw [i1, i2]
  refine ⟨fun ⟨f, f1, f2⟩ => ?_, fun h => ?_⟩
  · rw [Bool.or_eq_true] at f2
    rcases f2 with f2 | f2
    · exact Or.inl ⟨f, f1, f2⟩
    · exact Or.inr ⟨f, f1, f2⟩
  · rcases h with ⟨f, f1, f2⟩ | ⟨f, f1, f2⟩
    · exact ⟨f, f1, by rw [f2]; rfl⟩
    · exact ⟨f, f1, by rw [f2, Bool.or_true]⟩
theorem bsB_8 (f : Nat → Bool) {n : Nat} (hn : n ≤ 7) : bsB f (n + 1) < 2 ^ 31 := Nat.lt_trans (bsB_lt f (n + 1)) (Nat.pow_lt_pow_right (by decide) (by omega))
theorem nbit {d b : Nat} (hd : d < 128) (hb : b < 8) : ((nI d >>> (nI b &&& 31)) &&& nI 1 = nI 1) ↔ d.testBit b = true := by
  rw [bit_get d hd b hb]
  by_cases c : d.testBit b = true
  · rw [if_pos c]; exact ⟨fun _ => c, fun _ => rfl⟩
  · rw [if_neg c]; exact ⟨fun y => absurd y (by decide), fun y => absurd y c⟩
theorem pw_reason {M : Mem} {p r b d v : Nat} {S : Nat → Nat} {Q : Int32 → Mem → Prop} (hr : r + 2 < p + 1 ∨ p + 7 < r) (hS : CV S) (hC : CC M r S) (hb : b < S 0) (hd : d < 128) (hv : v ≤ 1) (hQ : ∀ M', (∀ a, a < p + 1 ∨ p + 7 < a → M' a = M a) → Q (nI (rsn S b d v)) M') : w_X2_reason p r (nI b) (nI d) (nI v) M Q := by
  unfold w_X2_reason
  have h7 := hS.1.2
  rw [nbit hd (by omega)]
  have hu := hS.2.2.1 b hb
  refine ⟨fun c1 => ?_, fun c1 => ?_⟩
  · refine pw_isUpC hC hS hb ?_
    rw [nI_eq (by omega) (by omega)]
    refine ⟨fun c2 => ?_, fun c2 => ?_⟩
    · refine pw_clamped hC hS hd hb ?_
      refine pw_settingAt (by decide) ?_
      rw [hC.2.2.2 2 (by decide)]
      have h20 := hS.2.2.2.2.2
      have hcl := clm_bd hS (d := d) hb
      rw [nI_leI (show S (18 + 2) < 2 ^ 31 by show S 20 < _; omega) (by omega)]
      refine ⟨fun c3 => ?_, fun c3 => ?_⟩
      · refine pw_layFlat (by omega) hS hC hb hd hv (fun M1 hL => ?_)
        obtain ⟨hB, -, hF⟩ := hL
        have hC1 : CC M1 r S := hC.kept (hF _ (by omega)) (hF _ (by omega)) (hF _ (by omega))
        have bF := bxF_bd hS (d := d) (v := v) hb
        have bS := bxS_bd hS (d := d) (v := v) hb
        have er : rsn S b d v = if bsB (fun f => uppB S (bxF S b d v f)) (S 0 + 1) ≠ 0 ∨ bsB (fun f => uppB S (bxS S b d v f)) (S 0 + 1) ≠ 0 then 4 else if bsB (fun f => lowB (bxF S b d v f)) (S 0 + 1) ≠ 0 ∨ bsB (fun f => lowB (bxS S b d v f)) (S 0 + 1) ≠ 0 then 5 else if selfB S b d v = true then 6 else 0 := by
          unfold rsn
          rw [if_neg c1, if_neg c2, if_neg (show ¬ clm S b d < S 20 from Nat.not_lt.mpr c3)]
          congr 1
          · exact propext (any_or _ _ _)
          · congr 1
            exact propext (any_or _ _ _)
        have esf : selfB S b d v = anyF (S 0) (slfB (S 0) (bxS S b d v)) := rfl
        have n1 := bsB_8 (fun f => uppB S (bxF S b d v f)) h7
        have n2 := bsB_8 (fun f => uppB S (bxS S b d v f)) h7
        have n3 := bsB_8 (fun f => lowB (bxF S b d v f)) h7
        have n4 := bsB_8 (fun f => lowB (bxS S b d v f)) h7
        -- behind the first two questions all goes one way
        have rest : ∀ a2 : Nat, (a2 = 0 ∧ bsB (fun f => lowB (bxF S b d v f)) (S 0 + 1) = 0 ∨ a2 = 1 ∧ bsB (fun f => lowB (bxF S b d v f)) (S 0 + 1) ≠ 0) → bsB (fun f => uppB S (bxF S b d v f)) (S 0 + 1) = 0 → ∀ M2 : Mem, (∀ a, a < p + 1 ∨ p + 7 < a → M2 a = M a) → BXM M2 (p + 1) (S 0) (bxS S b d v) → w_X2_inUpper p r M2 (fun v20 M19 => ((v20 = 0 → ((¬ (nI a2) = 0 → Q (nI 5) M19) ∧ ((nI a2) = 0 → w_X2_inLower p M19 (fun v24 M23 => ((v24 = 0 → w_X3_strikesItself (p + 1) M23 (fun v27 M26 => ((v27 = 0 → Q (nI 0) M26) ∧ (¬ v27 = 0 → Q (nI 6) M26)))) ∧ (¬ v24 = 0 → Q (nI 5) M23)))))) ∧ (¬ v20 = 0 → Q (nI 4) M19))) := by
          intro a2 ha2 hu1 M2 hM2 hB2
          have hC2 : CC M2 r S := hC.kept (hM2 _ (by omega)) (hM2 _ (by omega)) (hM2 _ (by omega))
          have hq := hQ M2 hM2
          refine pw_inUpper hC2 hS hB2 bS h7 ?_
          rw [nI_z n2]
          refine ⟨fun u2 => ?_, fun u2 => ?_⟩
          · rw [if_neg (by rw [hu1, u2]; simp)] at er
            refine ⟨fun x => ?_, fun x => ?_⟩
            · rcases ha2 with ⟨y, -⟩ | ⟨-, y⟩
              · rw [y] at x; exact absurd rfl x
              · rw [er, if_pos (Or.inl y)] at hq; exact hq
            · rcases ha2 with ⟨-, y⟩ | ⟨y, -⟩
              · refine pw_inLower hB2 bS h7 ?_
                rw [nI_z n4]
                refine ⟨fun l2 => ?_, fun l2 => ?_⟩
                · rw [if_neg (by rw [y, l2]; simp)] at er
                  refine pw_strikesItself hB2 bS h7 (fun s => ?_) (fun s => ?_)
                  · rw [er, esf, if_pos s] at hq
                    exact ⟨fun w => absurd w (by decide), fun _ => hq⟩
                  · rw [er, esf, if_neg (by rw [s]; decide)] at hq
                    exact ⟨fun _ => hq, fun w => absurd rfl w⟩
                · rw [er, if_pos (Or.inr l2)] at hq; exact hq
              · rw [y] at x; exact absurd x (by decide)
          · rw [er, if_pos (Or.inr u2)] at hq; exact hq
        have sw : ∀ {P : Mem → Prop}, (∀ M2 : Mem, (∀ a, a < p + 1 ∨ p + 7 < a → M2 a = M a) → BXM M2 (p + 1) (S 0) (bxS S b d v) → P M2) → w_X3_swingUp (p + 1) (nI b) M1 P := by
          intro P hP
          refine pw_swing hB (by omega) h7 (fun M2 f2 b2 => hP M2 (fun a ha => ?_) b2)
          rw [f2 a (by omega), hF a (by omega)]
        refine pw_inUpper hC1 hS hB bF h7 ?_
        rw [nI_z n1]
        refine ⟨fun u1 => ?_, fun u1 => ?_⟩
        · refine pw_inLower hB bF h7 ?_
          rw [nI_z n3]
          refine ⟨fun l1 => ?_, fun l1 => ?_⟩
          · refine sw (fun M2 f2 b2 => ?_)
            exact ⟨fun x => absurd rfl x, fun _ => rest 0 (Or.inl ⟨rfl, l1⟩) u1 M2 f2 b2⟩
          · refine sw (fun M2 f2 b2 => ?_)
            exact ⟨fun x => absurd rfl x, fun _ => rest 1 (Or.inr ⟨rfl, l1⟩) u1 M2 f2 b2⟩
        · rw [if_pos (Or.inl u1)] at er
          refine pw_inLower hB bF h7 ?_
          rw [nI_z n3]
          have hq4 : ∀ M2 : Mem, (∀ a, a < p + 1 ∨ p + 7 < a → M2 a = M a) → Q (nI 4) M2 := fun M2 f2 => by
            have := hQ M2 f2
            rw [er] at this
            exact this
          refine ⟨fun l1 => ?_, fun l1 => ?_⟩
          · refine sw (fun M2 f2 b2 => ?_)
            exact ⟨fun _ => hq4 M2 f2, fun x => absurd x (by decide)⟩
          · refine sw (fun M2 f2 b2 => ?_)
            exact ⟨fun _ => hq4 M2 f2, fun x => absurd x (by decide)⟩
      · have hq := hQ M (fun _ _ => rfl)
        have : rsn S b d v = 3 := by
          unfold rsn
          rw [if_neg c1, if_neg c2, if_pos (show clm S b d < S 20 from Nat.not_le.mp c3)]
        rw [this] at hq
        exact hq
    · have hq := hQ M (fun _ _ => rfl)
      have : rsn S b d v = 2 := by
        unfold rsn
        rw [if_neg c1, if_pos c2]
      rw [this] at hq
      exact hq
  · have hq := hQ M (fun _ _ => rfl)
    have : rsn S b d v = 1 := by
      unfold rsn
      rw [if_pos c1]
    rw [this] at hq
    exact hq
def stkS (S : Nat → Nat) (b d v : Nat) : Nat := bsB (fun f => uppB S (bxF S b d v f) || uppB S (bxS S b d v f)) (S 0 + 1)
theorem pw_strikersC {M : Mem} {p r b d v : Nat} {S : Nat → Nat} {Q : Int32 → Mem → Prop} (hr : r + 2 < p + 1 ∨ p + 7 < r) (hS : CV S) (hC : CC M r S) (hb : b < S 0) (hd : d < 128) (hv : v ≤ 1) (hQ : ∀ M', (∀ a, a < p + 1 ∨ p + 7 < a → M' a = M a) → Q (nI (stkS S b d v)) M') : w_X2_upperStrikers p r (nI b) (nI d) (nI v) M Q := by
  unfold w_X2_upperStrikers
  have h7 := hS.1.2
  refine pw_layFlat (by omega) hS hC hb hd hv (fun M1 hL => ?_)
  obtain ⟨hB, -, hF⟩ := hL
  have hC1 : CC M1 r S := hC.kept (hF _ (by omega)) (hF _ (by omega)) (hF _ (by omega))
  refine pw_inUpper hC1 hS hB (bxF_bd hS hb) h7 ?_
  refine pw_swing hB (by omega) h7 (fun M2 f2 b2 => ?_)
  have hM2 : ∀ a, a < p + 1 ∨ p + 7 < a → M2 a = M a := fun a ha => by rw [f2 a (by omega), hF a (by omega)]
  have hC2 : CC M2 r S := hC.kept (hM2 _ (by omega)) (hM2 _ (by omega)) (hM2 _ (by omega))
  refine pw_inUpper hC2 hS b2 (bxS_bd hS hb) h7 ?_
  rw [nI_or, bsB_or]
  exact hQ M2 hM2
theorem pw_farEnd {M : Mem} {p r b d v f e : Nat} {S : Nat → Nat} {Q : Int32 → Mem → Prop} (hr : r + 2 < p + 1 ∨ p + 7 < r) (hS : CV S) (hC : CC M r S) (hb : b < S 0) (hf : f ≤ S 0) (hd : d < 128) (hv : v ≤ 1) (he : e ≤ 1) (hd2 : M r 2 = nI d) (hv2 : M r 3 = nI v) (hQ : ∀ M', (∀ a, a < p + 1 ∨ p + 7 < a → M' a = M a) → Q (iI (if e = 1 then (gE S b d v f).2 else (gE S b d v f).1)) M') : w_X2_farEnd p r (nI b) (nI f) (nI e) M Q := by
  unfold w_X2_farEnd
  have h7 := hS.1.2
  rw [hd2, hv2]
  refine pw_layFlat (by omega) hS hC hb hd hv (fun M1 hL => ?_)
  obtain ⟨-, hE, hF⟩ := hL
  have hq := hQ M1 (fun a ha => hF a (by omega))
  refine ⟨fun c => ?_, fun c => ?_⟩
  · have e0 : e = 0 := (nI_z (by omega)).mp c
    rw [if_neg (by omega)] at hq
    unfold w_X3_farEndX
    refine ⟨fun z => absurd z (nI_neg (by omega)), fun _ => ⟨fun z => ?_, fun _ => ⟨vp_in_nI (by omega) (by decide), ?_⟩⟩⟩
    · rw [nI_leI (by decide) (by omega)] at z; omega
    · rw [nI_clamp (by omega), (hE f hf).1]; exact hq
  · have e0 : e = 1 := by
      rcases (show e = 0 ∨ e = 1 by omega) with y | y
      · rw [y] at c; exact absurd rfl c
      · exact y
    rw [if_pos e0] at hq
    unfold w_X3_farEndY
    refine ⟨fun z => absurd z (nI_neg (by omega)), fun _ => ⟨fun z => ?_, fun _ => ⟨vp_in_nI (by omega) (by decide), ?_⟩⟩⟩
    · rw [nI_leI (by decide) (by omega)] at z; omega
    · rw [nI_clamp (by omega), (hE f hf).2]; exact hq
