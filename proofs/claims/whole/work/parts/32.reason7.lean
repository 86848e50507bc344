/-! the reference's strikes -/
def BXV (n : Nat) (B : Nat → BX) : Prop := ∀ f, f ≤ n → (B f).1.1 ≤ (B f).1.2 ∧ (B f).2.1 ≤ (B f).2.2
theorem bxF_v (S : Nat → Nat) (b d v n : Nat) : BXV n (bxF S b d v) := by
  intro f _
  unfold bxF
  dsimp only
  omega
theorem bxS_v (S : Nat → Nat) (b d v n : Nat) : BXV n (bxS S b d v) := by
  intro f hf
  have := bxF_v S b d v n f hf
  unfold bxS
  split
  · dsimp only; omega
  · exact this
theorem hit_iff {B : BX} {x1 x2 y1 y2 : Int} (h1 : B.1.1 ≤ B.1.2) (h2 : B.2.1 ≤ B.2.2) (hx : x1 ≤ x2) : hitB B x1 x2 y1 y2 = true ↔ ∃ x y, inB B x y ∧ (x1 ≤ x ∧ x ≤ x2) ∧ (y1 ≤ y ∧ y ≤ y2) := by
  unfold hitB inB
  simp only [Bool.and_eq_true, decide_eq_true_eq]
  refine ⟨fun h => ⟨max B.1.1 x1, max B.2.1 y1, by omega, by omega, by omega⟩, fun ⟨x, y, h⟩ => by omega⟩
/-- the points that are laid out are those of the boxes -/
def PQ (M : Mem) (n T : Nat) (P : PTF) (B : Nat → BX) : Prop := T ≤ 80 ∧ PTX M T P ∧ PTD T P (fun f => f ≤ n) B
def acU (P : PTF) (h : Int → Int → Bool) : Nat → Nat
  | 0 => 0
  | k + 1 => if h (P k).2.1 (P k).2.2 then acU P h k ||| 2 ^ (P k).1 else acU P h k
theorem acU_t (P : PTF) (h : Int → Int → Bool) (f : Nat) : ∀ k, (acU P h k).testBit f = true ↔ ∃ i, i < k ∧ (P i).1 = f ∧ h (P i).2.1 (P i).2.2 = true := by
  intro k
  induction k with
  | zero => simp [acU]
  | succ k ih =>
    show (if h (P k).2.1 (P k).2.2 then acU P h k ||| 2 ^ (P k).1 else acU P h k).testBit f = true ↔ _
    by_cases c : h (P k).2.1 (P k).2.2 = true
    · rw [if_pos c, Nat.testBit_or, Bool.or_eq_true, ih, Nat.testBit_two_pow, decide_eq_true_eq]
      refine ⟨fun hh => ?_, fun ⟨i, i1, i2, i3⟩ => ?_⟩
      · rcases hh with ⟨i, i1, i2, i3⟩ | e
        · exact ⟨i, by omega, i2, i3⟩
        · exact ⟨k, by omega, e, c⟩
      · by_cases e : i = k
        · subst e; exact Or.inr i2
        · exact Or.inl ⟨i, by omega, i2, i3⟩
    · rw [if_neg c, ih]
      refine ⟨fun ⟨i, i1, i2, i3⟩ => ⟨i, by omega, i2, i3⟩, fun ⟨i, i1, i2, i3⟩ => ⟨i, ?_, i2, i3⟩⟩
      have : i ≠ k := fun e => c (by rw [← e]; exact i3)
      omega
theorem acU_bs {M : Mem} {n T : Nat} {P : PTF} {B : Nat → BX} {h : Int → Int → Bool} {p : Nat → Bool} (hP : PQ M n T P B) (hp : ∀ f, f ≤ n → (p f = true ↔ ∃ x y, inB (B f) x y ∧ h x y = true)) : acU P h T = bsB p (n + 1) := by
  apply Nat.eq_of_testBit_eq
  intro f
  apply Bool.eq_iff_iff.mpr
  rw [acU_t, bsB_t, Bool.and_eq_true, decide_eq_true_eq]
  obtain ⟨_, _, d1, d2⟩ := hP
  refine ⟨fun ⟨i, i1, i2, i3⟩ => ?_, fun ⟨f1, f2⟩ => ?_⟩
  · obtain ⟨a1, a2⟩ := d1 i i1
    rw [i2] at a1 a2
    exact ⟨by omega, (hp f a1).mpr ⟨_, _, a2, i3⟩⟩
  · obtain ⟨x, y, b1, b2⟩ := (hp f (by omega)).mp f2
    obtain ⟨i, i1, i2⟩ := d2 f (by show f ≤ n; omega) x y b1
    exact ⟨i, i1, by rw [i2], by rw [i2]; exact b2⟩
def upP (S : Nat → Nat) (x y : Int) : Bool := decide (1 ≤ y ∧ y ≤ (S 18 : Int)) && decide (1 ≤ x ∧ x ≤ if 3 ≤ y then 1 + (S 19 : Int) else 1)
def loP (x y : Int) : Bool := decide (-3 ≤ y ∧ y ≤ -1) && decide (1 ≤ x ∧ x ≤ 3)
theorem upP_iff {S : Nat → Nat} {B : BX} (h1 : B.1.1 ≤ B.1.2) (h2 : B.2.1 ≤ B.2.2) : uppB S B = true ↔ ∃ x y, inB B x y ∧ upP S x y = true := by
  unfold uppB
  rw [Bool.or_eq_true, hit_iff h1 h2 (by decide), hit_iff h1 h2 (by omega)]
  unfold upP
  simp only [Bool.and_eq_true, decide_eq_true_eq]
  refine ⟨fun h => ?_, fun ⟨x, y, a, b, c⟩ => ?_⟩
  · rcases h with ⟨x, y, a, b, c⟩ | ⟨x, y, a, b, c⟩
    · refine ⟨x, y, a, by omega, ?_⟩
      rw [if_neg (by omega)]
      exact b
    · refine ⟨x, y, a, by omega, ?_⟩
      rw [if_pos (by omega)]
      exact b
  · by_cases q : 3 ≤ y
    · rw [if_pos q] at c
      exact Or.inr ⟨x, y, a, c, by omega⟩
    · rw [if_neg q] at c
      exact Or.inl ⟨x, y, a, c, by omega⟩
theorem loP_iff {B : BX} (h1 : B.1.1 ≤ B.1.2) (h2 : B.2.1 ≤ B.2.2) : lowB B = true ↔ ∃ x y, inB B x y ∧ loP x y = true := by
  unfold lowB
  rw [hit_iff h1 h2 (by decide)]
  unfold loP
  simp only [Bool.and_eq_true, decide_eq_true_eq]
  exact ⟨fun ⟨x, y, a, b, c⟩ => ⟨x, y, a, c, b⟩, fun ⟨x, y, a, b, c⟩ => ⟨x, y, a, c, b⟩⟩
theorem nI_or0 (u : Nat) : nI u ||| nI 0 = nI u := by rw [nI_or, Nat.or_zero]
theorem lq_strike {M : Mem} {n0 T up : Nat} {P : PTF} {S : Nat → Nat} {K : Int32 → Int32 → Mem → Prop} {h : Int → Int → Bool} (hC : RC (M 1) S) (hS : CV S) (hT : T ≤ 80) (hX : PTX M T P) (hfl : ∀ i, i < T → (P i).1 < 8) (hbd : ∀ i, i < T → (-72 ≤ (P i).2.1 ∧ (P i).2.1 ≤ 72) ∧ -72 ≤ (P i).2.2 ∧ (P i).2.2 ≤ 72) (hup : up = 1 ∧ h = upP S ∨ up = 0 ∧ h = loP) (hK : ∀ x, K (nI (acU P h T)) x M) :
    ∀ (n k : Nat), k ≤ T → T + 1 ≤ n + k → w_X7_strike_4 n (nI up) (nI (acU P h k)) (nI k) M K := by
  intro n
  have h18 : M 1 18 = nI (S 18) := hC.2.2.2 0 (by decide)
  have h19 : M 1 19 = nI (S 19) := hC.2.2.2 1 (by decide)
  obtain ⟨-, -, -, s18, s19, -⟩ := hS
  induction n with
  | zero => intro k h1 h2; omega
  | succ n ih =>
    intro k h1 h2
    unfold w_X7_strike_4
    rw [hX.1]
    refine ⟨fun z => ?_, fun z => ?_⟩
    · rw [nI_leI (by omega) (by omega)] at z
      have e : k = T := by omega
      rw [e]
      exact hK _
    · rw [nI_leI (by omega) (by omega)] at z
      have hv : vp_in (nI k) 80 := vp_in_nI (by omega) (by decide)
      obtain ⟨e7, e5, e6⟩ := hX.2 k (by omega)
      obtain ⟨⟨x1, x2⟩, y1, y2⟩ := hbd k (by omega)
      have hf := hfl k (by omega)
      have ck : (nI k).toNatClampNeg = k := nI_clamp (by omega)
      have hN : h (P k).2.1 (P k).2.2 = false → ∀ y : Int32, y = (nI (acU P h k) ||| nI 0) → ∀ y' : Int32, y' = nI k + nI 1 → w_X7_strike_4 n (nI up) y y' M K := by
        rintro hh _ rfl _ rfl
        rw [nI_add, nI_or0]
        have := ih (k + 1) (by omega) (by omega)
        rw [show acU P h (k + 1) = acU P h k from if_neg (by rw [hh]; decide)] at this
        exact this
      have hY : h (P k).2.1 (P k).2.2 = true → vp_in (nI k) 80 ∧ ∀ y : Int32, y = (nI (acU P h k) ||| (nI 1 <<< (M 7 (nI k).toNatClampNeg &&& 31))) → ∀ y' : Int32, y' = nI k + nI 1 → w_X7_strike_4 n (nI up) y y' M K := by
        intro hh
        refine ⟨hv, ?_⟩
        rintro _ rfl _ rfl
        rw [ck, e7, nI_add, bit_set8 _ hf, nI_or]
        have := ih (k + 1) (by omega) (by omega)
        rw [show acU P h (k + 1) = acU P h k ||| 2 ^ (P k).1 from if_pos hh] at this
        exact this
      have z0 : ∀ {A B : Prop}, A → ((nI 0 = 0 → A) ∧ (¬ nI 0 = 0 → B)) := fun a => ⟨fun _ => a, fun z => absurd rfl z⟩
      have z1 : ∀ {A B : Prop}, B → ((nI 1 = 0 → A) ∧ (¬ nI 1 = 0 → B)) := fun b => ⟨fun z => absurd z (by decide), fun _ => b⟩
      rcases hup with ⟨rfl, rfl⟩ | ⟨rfl, rfl⟩
      · refine ⟨fun z => absurd z (by decide), fun _ => ⟨hv, ?_⟩⟩
        have b1 : ((P k).2.2 < 1 ∨ (S 18 : Int) < (P k).2.2) → upP S (P k).2.1 (P k).2.2 = false := fun c => by
          unfold upP
          rw [show decide (1 ≤ (P k).2.2 ∧ (P k).2.2 ≤ (S 18 : Int)) = false by rw [decide_eq_false_iff_not]; omega, Bool.false_and]
        refine pw_in (fun c => z0 (z0 (hN (b1 ?_)))) (fun c1 c2 => z1 ⟨hv, hv, ?_⟩)
        · rw [ck, e6, h18, ← iI_nat (S 18), show nI 1 = iI 1 by decide, iI_lt (by omega) (by omega), iI_lt (by omega) (by omega)] at c
          exact c
        · rw [ck, e6, show nI 1 = iI 1 by decide, iI_lt (by omega) (by omega)] at c1
          rw [ck, e6, h18, ← iI_nat (S 18), iI_lt (by omega) (by omega)] at c2
          rw [show M 6 (nI k).toNatClampNeg = iI (P k).2.2 by rw [ck]; exact e6, show nI 3 = iI 3 by decide, iI_le (by omega) (by omega)]
          refine ⟨fun c3 => ?_, fun c3 => ?_⟩
          · have eU : upP S (P k).2.1 (P k).2.2 = decide (1 ≤ (P k).2.1 ∧ (P k).2.1 ≤ 1 + (S 19 : Int)) := by
              unfold upP
              rw [show decide (1 ≤ (P k).2.2 ∧ (P k).2.2 ≤ (S 18 : Int)) = true by rw [decide_eq_true_eq]; omega, Bool.true_and, if_pos c3]
            refine pw_in (fun c => z0 (z0 (hN ?_))) (fun c4 c5 => z1 (z1 (hY ?_)))
            · rw [show M 5 (nI k).toNatClampNeg = iI (P k).2.1 by rw [ck]; exact e5, h19, nI_add, ← iI_nat (1 + S 19), show nI 1 = iI 1 by decide, iI_lt (by omega) (by omega), iI_lt (by omega) (by omega)] at c
              rw [eU, decide_eq_false_iff_not]
              omega
            · rw [show M 5 (nI k).toNatClampNeg = iI (P k).2.1 by rw [ck]; exact e5, show nI 1 = iI 1 by decide, iI_lt (by omega) (by omega)] at c4
              rw [show M 5 (nI k).toNatClampNeg = iI (P k).2.1 by rw [ck]; exact e5, h19, nI_add, ← iI_nat (1 + S 19), iI_lt (by omega) (by omega)] at c5
              rw [eU, decide_eq_true_eq]
              omega
          · have eU : upP S (P k).2.1 (P k).2.2 = decide (1 ≤ (P k).2.1 ∧ (P k).2.1 ≤ 1) := by
              unfold upP
              rw [show decide (1 ≤ (P k).2.2 ∧ (P k).2.2 ≤ (S 18 : Int)) = true by rw [decide_eq_true_eq]; omega, Bool.true_and, if_neg c3]
            refine pw_in (fun c => z0 (z0 (hN ?_))) (fun c4 c5 => z1 (z1 (hY ?_)))
            · rw [show M 5 (nI k).toNatClampNeg = iI (P k).2.1 by rw [ck]; exact e5, show nI 1 = iI 1 by decide, iI_lt (by omega) (by omega), iI_lt (by omega) (by omega)] at c
              rw [eU, decide_eq_false_iff_not]
              omega
            · rw [show M 5 (nI k).toNatClampNeg = iI (P k).2.1 by rw [ck]; exact e5, show nI 1 = iI 1 by decide, iI_lt (by omega) (by omega)] at c4
              rw [show M 5 (nI k).toNatClampNeg = iI (P k).2.1 by rw [ck]; exact e5, show nI 1 = iI 1 by decide, iI_lt (by omega) (by omega)] at c5
              rw [eU, decide_eq_true_eq]
              omega
      · refine ⟨fun _ => ⟨hv, ?_⟩, fun z => absurd rfl z⟩
        refine pw_in (fun c => z0 (z0 (hN ?_))) (fun c1 c2 => z1 ⟨hv, ?_⟩)
        · rw [ck, e6, show (-3 : Int32) = iI (-3) by decide, show (-1 : Int32) = iI (-1) by decide, iI_lt (by omega) (by omega), iI_lt (by omega) (by omega)] at c
          unfold loP
          rw [show decide (-3 ≤ (P k).2.2 ∧ (P k).2.2 ≤ -1) = false by rw [decide_eq_false_iff_not]; omega, Bool.false_and]
        · rw [ck, e6, show (-3 : Int32) = iI (-3) by decide, iI_lt (by omega) (by omega)] at c1
          rw [ck, e6, show (-1 : Int32) = iI (-1) by decide, iI_lt (by omega) (by omega)] at c2
          have eU : loP (P k).2.1 (P k).2.2 = decide (1 ≤ (P k).2.1 ∧ (P k).2.1 ≤ 3) := by
            unfold loP
            rw [show decide (-3 ≤ (P k).2.2 ∧ (P k).2.2 ≤ -1) = true by rw [decide_eq_true_eq]; omega, Bool.true_and]
          refine pw_in (fun c => z0 (z0 (hN ?_))) (fun c4 c5 => z1 (z1 (hY ?_)))
          · rw [show M 5 (nI k).toNatClampNeg = iI (P k).2.1 by rw [ck]; exact e5, show nI 1 = iI 1 by decide, show nI 3 = iI 3 by decide, iI_lt (by omega) (by omega), iI_lt (by omega) (by omega)] at c
            rw [eU, decide_eq_false_iff_not]
            omega
          · rw [show M 5 (nI k).toNatClampNeg = iI (P k).2.1 by rw [ck]; exact e5, show nI 1 = iI 1 by decide, iI_lt (by omega) (by omega)] at c4
            rw [show M 5 (nI k).toNatClampNeg = iI (P k).2.1 by rw [ck]; exact e5, show nI 3 = iI 3 by decide, iI_lt (by omega) (by omega)] at c5
            rw [eU, decide_eq_true_eq]
            omega
theorem PQ.bd {M : Mem} {n T : Nat} {P : PTF} {B : Nat → BX} (hP : PQ M n T P B) (hB : BBd n B) : ∀ i, i < T → (-72 ≤ (P i).2.1 ∧ (P i).2.1 ≤ 72) ∧ -72 ≤ (P i).2.2 ∧ (P i).2.2 ≤ 72 := by
  intro i hi
  obtain ⟨a1, a2⟩ := hP.2.2.1 i hi
  have := hB _ a1
  unfold inB at a2
  omega
theorem PQ.fl {M : Mem} {n T : Nat} {P : PTF} {B : Nat → BX} (hP : PQ M n T P B) (hn : n ≤ 7) : ∀ i, i < T → (P i).1 < 8 := fun i hi => Nat.lt_of_le_of_lt (hP.2.2.1 i hi).1 (by omega)
theorem pw_strikeU {M : Mem} {T : Nat} {P : PTF} {B : Nat → BX} {S : Nat → Nat} {Q : Int32 → Mem → Prop} (hC : RC (M 1) S) (hS : CV S) (hP : PQ M (S 0) T P B) (hB : BBd (S 0) B) (hV : BXV (S 0) B) (hQ : Q (nI (bsB (fun f => uppB S (B f)) (S 0 + 1))) M) : w_X7_strike (nI 1) M Q := by
  unfold w_X7_strike
  rw [← acU_bs (h := upP S) hP (fun f hf => upP_iff (hV f hf).1 (hV f hf).2)] at hQ
  exact lq_strike (n0 := S 0) (up := 1) (K := fun y59 _ M61 => Q y59 M61) hC hS hP.1 hP.2.1 (hP.fl hS.1.2) (hP.bd hB) (Or.inl ⟨rfl, rfl⟩) (fun _ => hQ) FU 0 (Nat.zero_le _) (by have := hP.1; show _ ≤ 1000 + 0; omega)
theorem pw_strikeL {M : Mem} {T : Nat} {P : PTF} {B : Nat → BX} {S : Nat → Nat} {Q : Int32 → Mem → Prop} (hC : RC (M 1) S) (hS : CV S) (hP : PQ M (S 0) T P B) (hB : BBd (S 0) B) (hV : BXV (S 0) B) (hQ : Q (nI (bsB (fun f => lowB (B f)) (S 0 + 1))) M) : w_X7_strike (nI 0) M Q := by
  unfold w_X7_strike
  rw [← acU_bs (h := loP) hP (fun f hf => loP_iff (hV f hf).1 (hV f hf).2)] at hQ
  exact lq_strike (n0 := S 0) (up := 0) (K := fun y59 _ M61 => Q y59 M61) hC hS hP.1 hP.2.1 (hP.fl hS.1.2) (hP.bd hB) (Or.inr ⟨rfl, rfl⟩) (fun _ => hQ) FU 0 (Nat.zero_le _) (by have := hP.1; show _ ≤ 1000 + 0; omega)
def rtP (b k : Nat) (P : PTF) : PTF := fun i => if i < k ∧ (P i).1 ≤ b then ((P i).1, (P i).2.2, -(P i).2.1) else P i
theorem lq_swing7 {M0 : Mem} {T b : Nat} {P : PTF} {K : Int32 → Mem → Prop} (hT : T ≤ 80) (hb : b < 8) (hfl : ∀ i, i < T → (P i).1 < 8) (hK : ∀ (x : Int32) (M : Mem), PFR M0 M → PTX M T (rtP b T P) → K x M) :
    ∀ (n k : Nat) (M : Mem), k ≤ T → T + 1 ≤ n + k → PFR M0 M → PTX M T (rtP b k P) → w_X7_swing_2 n (nI b) (nI k) M K := by
  intro n
  induction n with
  | zero => intro k M h1 h2; omega
  | succ n ih =>
    intro k M h1 h2 hF hX
    unfold w_X7_swing_2
    rw [hX.1]
    refine ⟨fun z => ?_, fun z => ?_⟩
    · rw [nI_leI (by omega) (by omega)] at z
      have e : k = T := by omega
      subst e
      exact hK _ M hF hX
    · rw [nI_leI (by omega) (by omega)] at z
      have hv : vp_in (nI k) 80 := vp_in_nI (by omega) (by decide)
      obtain ⟨e7, e5, e6⟩ := hX.2 k (by omega)
      have ek : rtP b k P k = P k := if_neg (by omega)
      rw [ek] at e7 e5 e6
      have hf := hfl k (by omega)
      rw [nI_clamp (show k < 2 ^ 31 by omega), e7, nI_ltI (by omega) (by omega)]
      refine ⟨hv, fun c => ?_, fun c => ?_⟩
      · rintro _ rfl
        rw [nI_add]
        refine ih (k + 1) M (by omega) (by omega) hF ⟨hX.1, fun i hi => ?_⟩
        have : rtP b (k + 1) P i = rtP b k P i := by
          unfold rtP
          by_cases q : i < k ∧ (P i).1 ≤ b
          · rw [if_pos q, if_pos ⟨by omega, q.2⟩]
          · rw [if_neg q, if_neg]
            intro q2
            have : i = k := by omega
            subst this
            omega
        rw [this]
        exact hX.2 i hi
      · refine ⟨hv, ?_⟩
        rintro _ rfl
        refine ⟨hv, hv, ?_⟩
        intro M1 q1
        refine ⟨hv, ?_⟩
        rintro M2 q2 _ rfl
        rw [nI_add]
        have m5 : M2 5 = upd (M 5) k (iI (P k).2.2) := by rw [q2, um_n (by decide), q1, um_s, e6]
        have m6 : M2 6 = upd (M 6) k (iI (-(P k).2.1)) := by rw [q2, um_s, q1, um_n (by decide), e5, iI_neg]
        have mo : ∀ a, a ≠ 5 → a ≠ 6 → M2 a = M a := fun a a5 a6 => by rw [q2, um_n a6, q1, um_n a5]
        refine ih (k + 1) M2 (by omega) (by omega) (hF.trans ⟨fun a _ a5 a6 _ => mo a a5 a6, fun s _ => by rw [mo 0 (by decide) (by decide)]⟩) ⟨by rw [mo 0 (by decide) (by decide)]; exact hX.1, fun i hi => ?_⟩
        rw [m5, m6, mo 7 (by decide) (by decide)]
        by_cases q : i = k
        · subst q
          have : rtP b (i + 1) P i = ((P i).1, (P i).2.2, -(P i).2.1) := if_pos ⟨by omega, by omega⟩
          rw [this, upd_s, upd_s]
          exact ⟨e7, rfl, rfl⟩
        · have : rtP b (k + 1) P i = rtP b k P i := by
            unfold rtP
            by_cases q' : i < k ∧ (P i).1 ≤ b
            · rw [if_pos q', if_pos ⟨by omega, q'.2⟩]
            · rw [if_neg q', if_neg (by omega)]
          rw [this, upd_n q, upd_n q]
          exact hX.2 i hi
theorem pw_swing7 {M : Mem} {n0 T b : Nat} {P : PTF} {B : Nat → BX} {Q : Mem → Prop} (hP : PQ M n0 T P B) (hn : n0 ≤ 7) (hb : b < 8) (hQ : ∀ M' P', PFR M M' → PQ M' n0 T P' (swB b B) → Q M') : w_X7_swing (nI b) M Q := by
  unfold w_X7_swing
  have e0 : rtP b 0 P = P := by funext i; exact if_neg (by omega)
  refine lq_swing7 (M0 := M) (P := P) (K := fun _ M9 => Q M9) hP.1 hb (hP.fl hn) (fun _ M' hF hX => ?_) FU 0 M (Nat.zero_le _) (by have := hP.1; show _ ≤ 1000 + 0; omega) (PFR.refl M) (by rw [e0]; exact hP.2.1)
  refine hQ M' (rtP b T P) hF ⟨hP.1, hX, fun i hi => ?_, fun f hf x y hb' => ?_⟩
  · obtain ⟨a1, a2⟩ := hP.2.2.1 i hi
    unfold rtP swB
    by_cases c : (P i).1 ≤ b
    · rw [if_pos ⟨hi, c⟩, if_pos c]
      refine ⟨a1, ?_⟩
      unfold inB at a2 ⊢
      dsimp only
      omega
    · rw [if_neg (fun q => c q.2), if_neg c]
      exact ⟨a1, a2⟩
  · unfold swB at hb'
    by_cases c : f ≤ b
    · rw [if_pos c] at hb'
      obtain ⟨i, i1, i2⟩ := hP.2.2.2 f hf (-y) x (by unfold inB at hb' ⊢; dsimp only at hb'; omega)
      refine ⟨i, i1, ?_⟩
      have : rtP b T P i = ((P i).1, (P i).2.2, -(P i).2.1) := if_pos ⟨i1, by rw [i2]; exact c⟩
      rw [this, i2]
      show (f, x, - -y) = (f, x, y)
      rw [Int.neg_neg]
    · rw [if_neg c] at hb'
      obtain ⟨i, i1, i2⟩ := hP.2.2.2 f hf x y hb'
      refine ⟨i, i1, ?_⟩
      have : rtP b T P i = P i := if_neg (by rw [i2]; omega)
      rw [this, i2]
/-- two points of flanges that are no neighbours, at one place -/
def same (P : PTF) (i j : Nat) : Prop := (P j).1 + 1 < (P i).1 ∧ (P i).2.1 = (P j).2.1 ∧ (P i).2.2 = (P j).2.2
theorem lq_self14 {M : Mem} {T i : Nat} {P : PTF} {K : Int32 → Int32 → Mem → Prop} (hT : T ≤ 80) (hi : i < T) (hX : PTX M T P) (hfl : ∀ i, i < T → (P i).1 < 8) (hbd : ∀ i, i < T → (-72 ≤ (P i).2.1 ∧ (P i).2.1 ≤ 72) ∧ -72 ≤ (P i).2.2 ∧ (P i).2.2 ≤ 72) (c0 : Nat) (hK : ∀ c x, c ≤ 1 → (c = 1 ↔ c0 = 1 ∨ ∃ j, j < T ∧ same P i j) → K (nI c) x M) :
    ∀ (n k c : Nat), k ≤ T → T + 1 ≤ n + k → c ≤ 1 → (c = 1 ↔ c0 = 1 ∨ ∃ j, j < k ∧ same P i j) → w_X7_strikesItself_14 n (nI c) (nI i) (nI k) M K := by
  intro n
  induction n with
  | zero => intro k c h1 h2; omega
  | succ n ih =>
    intro k c h1 h2 hc hiff
    unfold w_X7_strikesItself_14
    rw [hX.1]
    refine ⟨fun z => ?_, fun z => ?_⟩
    · rw [nI_leI (by omega) (by omega)] at z
      have e : k = T := by omega
      subst e
      exact hK c _ hc hiff
    · rw [nI_leI (by omega) (by omega)] at z
      have hv : vp_in (nI k) 80 := vp_in_nI (by omega) (by decide)
      have hvi : vp_in (nI i) 80 := vp_in_nI (by omega) (by decide)
      obtain ⟨e7, e5, e6⟩ := hX.2 k (by omega)
      obtain ⟨i7, i5, i6⟩ := hX.2 i hi
      have f1 := hfl k (by omega)
      have f2 := hfl i hi
      have g1 := hbd k (by omega)
      have g2 := hbd i hi
      have next : ∀ c' : Nat, c' ≤ 1 → (c' = 1 ↔ c = 1 ∨ same P i k) → ∀ y : Int32, y = nI k + nI 1 → w_X7_strikesItself_14 n (nI c') (nI i) y M K := by
        rintro c' hc' h' _ rfl
        rw [nI_add]
        refine ih (k + 1) c' (by omega) (by omega) hc' ?_
        rw [h', hiff]
        refine ⟨fun q => ?_, fun q => ?_⟩
        · rcases q with (q | ⟨j, j1, j2⟩) | q
          · exact Or.inl q
          · exact Or.inr ⟨j, by omega, j2⟩
          · exact Or.inr ⟨k, by omega, q⟩
        · rcases q with q | ⟨j, j1, j2⟩
          · exact Or.inl (Or.inl q)
          · by_cases e : j = k
            · subst e; exact Or.inr j2
            · exact Or.inl (Or.inr ⟨j, by omega, j2⟩)
      rw [nI_clamp (show k < 2 ^ 31 by omega), nI_clamp (show i < 2 ^ 31 by omega), e7, e5, e6, i7, i5, i6, show nI (P k).1 + nI 1 = nI ((P k).1 + 1) from nI_add _ _, nI_leI (by omega) (by omega), iI_eq (by omega) (by omega), iI_eq (by omega) (by omega)]
      refine ⟨fun q => ?_, fun q => ?_⟩
      · have : c = 1 := by
          rcases (show c = 0 ∨ c = 1 by omega) with y | y
          · rw [y] at q; exact absurd rfl q
          · exact y
        exact next 1 (by decide) ⟨fun _ => Or.inl this, fun _ => rfl⟩
      · have c00 : c = 0 := (nI_z (by omega)).mp q
        refine ⟨hvi, hv, fun a => ?_, fun a => ⟨hvi, hv, fun a2 => ?_, fun a2 => ⟨hvi, hv, fun a3 => ?_, fun a3 => ?_⟩⟩⟩
        · exact next 0 (by decide) ⟨fun y => absurd y (by decide), fun y => by rcases y with y | ⟨y, -, -⟩ <;> omega⟩
        · exact next 0 (by decide) ⟨fun y => absurd y (by decide), fun y => by rcases y with y | ⟨-, y, -⟩; omega; exact absurd y a2⟩
        · exact next 0 (by decide) ⟨fun y => absurd y (by decide), fun y => by rcases y with y | ⟨-, -, y⟩; omega; exact absurd y a3⟩
        · exact next 1 (by decide) ⟨fun _ => Or.inr ⟨by omega, a2, a3⟩, fun _ => rfl⟩
theorem lq_self4 {M : Mem} {T : Nat} {P : PTF} {K : Int32 → Int32 → Mem → Prop} (hT : T ≤ 80) (hX : PTX M T P) (hfl : ∀ i, i < T → (P i).1 < 8) (hbd : ∀ i, i < T → (-72 ≤ (P i).2.1 ∧ (P i).2.1 ≤ 72) ∧ -72 ≤ (P i).2.2 ∧ (P i).2.2 ≤ 72) (hK : ∀ c x, c ≤ 1 → (c = 1 ↔ ∃ i j, i < T ∧ j < T ∧ same P i j) → K (nI c) x M) :
    ∀ (n k c : Nat), k ≤ T → T + 1 ≤ n + k → c ≤ 1 → (c = 1 ↔ ∃ i j, i < k ∧ j < T ∧ same P i j) → w_X7_strikesItself_4 n (nI c) (nI k) M K := by
  intro n
  induction n with
  | zero => intro k c h1 h2; omega
  | succ n ih =>
    intro k c h1 h2 hc hiff
    unfold w_X7_strikesItself_4
    rw [hX.1]
    refine ⟨fun z => ?_, fun z => ?_⟩
    · rw [nI_leI (by omega) (by omega)] at z
      have e : k = T := by omega
      subst e
      exact hK c _ hc hiff
    · rw [nI_leI (by omega) (by omega)] at z
      refine lq_self14 hT (by omega) hX hfl hbd c (fun c' x hc' h' => ?_) FU 0 c (Nat.zero_le _) (by show _ ≤ 1000 + 0; omega) hc ⟨fun y => Or.inl y, fun y => by rcases y with y | ⟨j, j1, -⟩; exact y; omega⟩
      rintro _ rfl
      rw [nI_add]
      refine ih (k + 1) c' (by omega) (by omega) hc' ?_
      rw [h', hiff]
      refine ⟨fun q => ?_, fun ⟨i, j, i1, j1, j2⟩ => ?_⟩
      · rcases q with ⟨i, j, i1, j1, j2⟩ | ⟨j, j1, j2⟩
        · exact ⟨i, j, by omega, j1, j2⟩
        · exact ⟨k, j, by omega, j1, j2⟩
      · by_cases e : i = k
        · subst e; exact Or.inr ⟨j, j1, j2⟩
        · exact Or.inl ⟨i, j, by omega, j1, j2⟩
theorem same_slf {M : Mem} {n T : Nat} {P : PTF} {B : Nat → BX} (hP : PQ M n T P B) (hV : BXV n B) : (∃ i j, i < T ∧ j < T ∧ same P i j) ↔ anyF n (slfB n B) = true := by
  rw [anyF_iff]
  refine ⟨fun ⟨i, j, i1, j1, s1, s2, s3⟩ => ?_, fun ⟨f, f1, f2⟩ => ?_⟩
  · obtain ⟨a1, a2⟩ := hP.2.2.1 i i1
    obtain ⟨b1, b2⟩ := hP.2.2.1 j j1
    refine ⟨(P j).1, b1, ?_⟩
    unfold slfB
    rw [anyF_iff]
    refine ⟨(P i).1, a1, ?_⟩
    rw [Bool.and_eq_true, decide_eq_true_eq, hit_iff (hV _ a1).1 (hV _ a1).2 (hV _ b1).1]
    unfold inB at b2
    exact ⟨by omega, _, _, a2, by rw [s2]; omega, by rw [s3]; omega⟩
  · unfold slfB at f2
    rw [anyF_iff] at f2
    obtain ⟨g, g1, g2⟩ := f2
    rw [Bool.and_eq_true, decide_eq_true_eq, hit_iff (hV _ g1).1 (hV _ g1).2 (hV _ f1).1] at g2
    obtain ⟨g3, x, y, h1, h2, h3⟩ := g2
    obtain ⟨i, i1, i2⟩ := hP.2.2.2 g g1 x y h1
    obtain ⟨j, j1, j2⟩ := hP.2.2.2 f f1 x y ⟨h2.1, h2.2, h3.1, h3.2⟩
    refine ⟨i, j, i1, j1, ?_⟩
    unfold same
    rw [i2, j2]
    exact ⟨by show f + 1 < g; omega, rfl, rfl⟩
theorem pw_self7 {M : Mem} {n T : Nat} {P : PTF} {B : Nat → BX} {Q : Int32 → Mem → Prop} (hn : n ≤ 7) (hP : PQ M n T P B) (hB : BBd n B) (hV : BXV n B) (h1 : anyF n (slfB n B) = true → Q (nI 1) M) (h0 : anyF n (slfB n B) = false → Q (nI 0) M) : w_X7_strikesItself M Q := by
  unfold w_X7_strikesItself
  refine lq_self4 hP.1 hP.2.1 (hP.fl hn) (hP.bd hB) (fun c x hc hiff => ?_) FU 0 0 (Nat.zero_le _) (by have := hP.1; show _ ≤ 1000 + 0; omega) (by decide) ⟨fun y => absurd y (by decide), fun ⟨i, j, i1, _⟩ => by omega⟩
  rw [same_slf hP hV] at hiff
  rcases (show c = 0 ∨ c = 1 by omega) with rfl | rfl
  · refine ⟨by unfold zb; decide, h0 ?_⟩
    by_cases q : anyF n (slfB n B) = true
    · exact absurd (hiff.mpr q) (by decide)
    · simpa using q
  · exact ⟨by unfold zb; decide, h1 (hiff.mp rfl)⟩
theorem lq_clamp7 {M : Mem} {d : Nat} {S : Nat → Nat} {K : Int32 → Int32 → Mem → Prop} {T : Nat} (hC : RC (M 1) S) (hS : CV S) (hd : d < 128) (hK : ∀ x, K (nI T) x M) :
    ∀ (n k j s : Nat), j ≤ S 0 → S 0 + 1 ≤ n + j → S 0 + 1 ≤ k + j → T = s + clF S d k j → w_X7_clamped_16 n (nI d) (nI s) (nI (j + 1)) M K := by
  intro n
  have h7 := hS.1.2
  induction n with
  | zero => intro k j s h1 h2; omega
  | succ n ih =>
    intro k j s h1 h2 h3 hT
    obtain ⟨k', hk'⟩ : ∃ k', k = k' + 1 := ⟨k - 1, by omega⟩
    subst hk'
    have hT : T = s + if j < S 0 ∧ d.testBit j = false then S (1 + (j + 1)) + clF S d k' (j + 1) else 0 := hT
    unfold w_X7_clamped_16
    by_cases hj : j = S 0
    · rw [if_neg (by omega)] at hT
      refine isFl_n hC.1 h7 (fun q hq e => ?_) ⟨fun _ => ?_, fun z => absurd rfl z⟩
      · have := nI_inj (by omega) (by omega) e
        omega
      · rw [show nI s = nI T by rw [hT]; rfl]
        exact hK _
    · refine isFl_y hC.1 h7 (by omega) ⟨fun z => absurd z (by decide), fun _ => ?_⟩
      rw [pk_sub (by omega), Nat.add_sub_cancel]
      refine pw_has hd (by omega) ?_
      by_cases c : d.testBit j = true
      · rw [if_pos c]
        refine ⟨fun _ => ?_, fun y => absurd y (by decide)⟩
        rw [if_neg (by rw [c]; simp)] at hT
        rw [show nI s = nI T by rw [hT]; rfl]
        exact hK _
      · rw [if_neg c]
        refine ⟨fun y => absurd rfl y, fun _ => ?_⟩
        rw [nI_add, nI_clamp (by omega), hC.2.2.1 (j + 1) (by omega)]
        refine ⟨vp_in_nI (by omega) (by decide), ?_⟩
        rintro _ rfl _ rfl
        rw [nI_add, nI_add]
        refine ih k' (j + 1) _ (by omega) (by omega) (by omega) ?_
        rw [if_pos ⟨by omega, by simpa using c⟩] at hT
        omega
theorem pw_clamped7 {M : Mem} {b d : Nat} {S : Nat → Nat} {Q : Int32 → Mem → Prop} (hC : RC (M 1) S) (hS : CV S) (hd : d < 128) (hb : b < S 0) (hQ : Q (nI (clm S b d)) M) : w_X7_clamped (nI b) (nI d) M Q := by
  unfold w_X7_clamped
  have h7 := hS.1.2
  rw [nI_add, nI_add, nI_clamp (by omega), show 1 + b + 1 = 1 + (b + 1) by omega, hC.2.2.1 (b + 1) (by omega), nI_add]
  refine ⟨vp_in_nI (by omega) (by decide), ?_⟩
  rintro _ rfl _ rfl
  exact lq_clamp7 (K := fun y11 _ M13 => Q y11 M13) (T := clm S b d) hC hS hd (fun _ => hQ) FU 8 (b + 1) _ (by omega) (by show _ ≤ 1000 + _; omega) (by omega) rfl
theorem PLAID.pq {M M' : Mem} {S : Nat → Nat} {b d v : Nat} (h : PLAID M M' S b d v) : PFR M M' ∧ ∃ T P, PQ M' (S 0) T P (bxF S b d v) ∧ PTE T P (fun f => f ≤ S 0) (gE S b d v) := by
  obtain ⟨h1, T, hT, P, p1, p2, p3⟩ := h
  exact ⟨h1, T, P, ⟨hT, p1, p2⟩, p3⟩
theorem nz_or {a b : Nat} (ha : a < 2 ^ 31) (hb : b < 2 ^ 31) : (nI (a ||| b) = 0) ↔ ¬ (a ≠ 0 ∨ b ≠ 0) := by
  rw [nI_z (Nat.or_lt_two_pow ha hb), Nat.or_eq_zero_iff]
  omega
theorem pw_reason7 {M : Mem} {b d v : Nat} {S : Nat → Nat} {Q : Int32 → Mem → Prop} (hS : CV S) (hC : RC (M 1) S) (hb : b < S 0) (hd : d < 128) (hv : v ≤ 1) (hQ : ∀ M', PFR M M' → Q (nI (rsn S b d v)) M') : w_X7_reason (nI b) (nI d) (nI v) M Q := by
  unfold w_X7_reason
  have h7 := hS.1.2
  refine pw_has hd (by omega) ?_
  by_cases c1 : d.testBit b = true
  · rw [if_pos c1]
    have hq := hQ M (PFR.refl M)
    have : rsn S b d v = 1 := by
      unfold rsn
      rw [if_pos c1]
    rw [this] at hq
    exact ⟨fun z => absurd z (by decide), fun _ => hq⟩
  · rw [if_neg c1]
    refine ⟨fun _ => ?_, fun z => absurd rfl z⟩
    refine pw_isUp7 hC hS hb hv (fun c2 => ?_) (fun c2 => ?_)
    · have hq := hQ M (PFR.refl M)
      have : rsn S b d v = 2 := by
        unfold rsn
        rw [if_neg c1, if_pos c2]
      rw [this] at hq
      exact ⟨fun z => absurd rfl z, fun _ => hq⟩
    · refine ⟨fun _ => ?_, fun z => absurd z (by decide)⟩
      refine pw_clamped7 hC hS hd hb ?_
      rw [show M 1 20 = nI (S 20) from hC.2.2.2 2 (by decide)]
      have h20 := hS.2.2.2.2.2
      have hcl := clm_bd hS (d := d) hb
      rw [nI_leI (by omega) (by omega)]
      refine ⟨fun c3 => ?_, fun c3 => ?_⟩
      · refine pw_lay hS hC hb hd hv (fun M1 hL => ?_)
        obtain ⟨f1, T, P, hP, -⟩ := hL.pq
        have row : ∀ {A : Mem}, PFR M A → RC (A 1) S := fun {A} hA => by rw [hA.1 1 (by decide) (by decide) (by decide) (by decide)]; exact hC
        have bF := bxF_bd hS (d := d) (v := v) hb
        have bS := bxS_bd hS (d := d) (v := v) hb
        have vF := bxF_v S b d v (S 0)
        have vS := bxS_v S b d v (S 0)
        have er : rsn S b d v = if bsB (fun f => uppB S (bxF S b d v f)) (S 0 + 1) ≠ 0 ∨ bsB (fun f => uppB S (bxS S b d v f)) (S 0 + 1) ≠ 0 then 4 else if bsB (fun f => lowB (bxF S b d v f)) (S 0 + 1) ≠ 0 ∨ bsB (fun f => lowB (bxS S b d v f)) (S 0 + 1) ≠ 0 then 5 else if selfB S b d v = true then 6 else 0 := by
          unfold rsn
          rw [if_neg c1, if_neg c2, if_neg (show ¬ clm S b d < S 20 from Nat.not_lt.mpr c3)]
          congr 1
          · exact propext (any_or _ _ _)
          · congr 1
            exact propext (any_or _ _ _)
        have esf : selfB S b d v = anyF (S 0) (slfB (S 0) (bxS S b d v)) := rfl
        have n1 := bsB_8 (fun f => uppB S (bxF S b d v f)) h7
        have n2 := bsB_8 (fun f => uppB S (bxS S b d v f)) h7
        have n3 := bsB_8 (fun f => lowB (bxF S b d v f)) h7
        have n4 := bsB_8 (fun f => lowB (bxS S b d v f)) h7
        refine pw_strikeU (row f1) hS hP bF vF ?_
        refine pw_strikeL (row f1) hS hP bF vF ?_
        refine pw_swing7 hP h7 (by omega) (fun M2 P2 f2 hP2 => ?_)
        have f12 := f1.trans f2
        have hP2 : PQ M2 (S 0) T P2 (bxS S b d v) := hP2
        refine pw_strikeU (row f12) hS hP2 bS vS ?_
        rintro _ rfl
        refine pw_strikeL (row f12) hS hP2 bS vS ?_
        rintro _ rfl
        rw [nI_or, nI_or]
        have hq := hQ M2 f12
        have e1 := nz_or n1 n2
        have e2 := nz_or n3 n4
        change (nI (bsB (fun f => uppB S (bxF S b d v f)) (S 0 + 1) ||| bsB (fun f => uppB S (bxS S b d v f)) (S 0 + 1)) = 0 → _) ∧ (¬ nI (bsB (fun f => uppB S (bxF S b d v f)) (S 0 + 1) ||| bsB (fun f => uppB S (bxS S b d v f)) (S 0 + 1)) = 0 → _)
        rw [e1]
        refine ⟨fun u => ?_, fun u => ?_⟩
        · rw [if_neg u] at er
          change (nI (bsB (fun f => lowB (bxF S b d v f)) (S 0 + 1) ||| bsB (fun f => lowB (bxS S b d v f)) (S 0 + 1)) = 0 → _) ∧ (¬ nI (bsB (fun f => lowB (bxF S b d v f)) (S 0 + 1) ||| bsB (fun f => lowB (bxS S b d v f)) (S 0 + 1)) = 0 → _)
          rw [e2]
          refine ⟨fun l => ?_, fun l => ?_⟩
          · rw [if_neg l] at er
            refine pw_self7 h7 hP2 bS vS (fun s => ?_) (fun s => ?_)
            · rw [er, esf, if_pos s] at hq
              exact ⟨fun w => absurd w (by decide), fun _ => hq⟩
            · rw [er, esf, if_neg (by rw [s]; decide)] at hq
              exact ⟨fun _ => hq, fun w => absurd rfl w⟩
          · rw [er, if_pos (Classical.not_not.mp l)] at hq
            exact hq
        · rw [er, if_pos (Classical.not_not.mp u)] at hq
          exact hq
      · have hq := hQ M (PFR.refl M)
        have : rsn S b d v = 3 := by
          unfold rsn
          rw [if_neg c1, if_neg c2, if_pos (Nat.not_le.mp c3)]
        rw [this] at hq
        exact hq
