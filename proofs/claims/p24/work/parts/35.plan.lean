/-! the class's plan -/
def PLNS (M : Mem) (S : Nat → Nat) : Prop := M 31 2 = nI 1 ∧ CC M 40 S ∧ ∀ d, d < 2 ^ S 0 → M 43 d = nI (wS S d) ∧ M 44 d = nI (ldS S d)
theorem PLNS.pln {M : Mem} {S : Nat → Nat} (h : PLNS M S) (hS : CV S) (hc : cor S = S) : PLN M := Or.inr ⟨h.1, S, hS, hc, h.2.1, h.2.2⟩
theorem pw_waysFrom {M : Mem} {d : Nat} {Q : Int32 → Mem → Prop} (hd : d < 128) (h : Q (M 43 d) M) : w_X1_waysFrom (nI d) M Q := by
  unfold w_X1_waysFrom
  rw [nI_clamp (by omega)]
  refine ⟨fun c => absurd c (nI_neg (by omega)), fun _ => ⟨fun c => ?_, fun _ => ⟨vp_in_nI hd (by decide), h⟩⟩⟩
  rw [nI_leI (by decide) (by omega)] at c; omega
theorem pw_stepsFrom {M : Mem} {d : Nat} {Q : Int32 → Mem → Prop} (hd : d < 128) (h : Q (M 44 d) M) : w_X1_stepsFrom (nI d) M Q := by
  unfold w_X1_stepsFrom
  rw [nI_clamp (by omega)]
  refine ⟨fun c => absurd c (nI_neg (by omega)), fun _ => ⟨fun c => ?_, fun _ => ⟨vp_in_nI hd (by decide), h⟩⟩⟩
  rw [nI_leI (by decide) (by omega)] at c; omega
theorem wS_lt {S : Nat → Nat} (hS : CV S) {d : Nat} (hd : d < 2 ^ S 0) : wS S d < 2 ^ 31 := by
  rw [wS_W]; exact wW_lt hS.1.2 (okS_P S _) hd
theorem nI_le0 {w : Nat} (h : w < 2 ^ 31) : nI w ≤ 0 ↔ w = 0 := by
  rw [← nI_0, nI_leI h (by decide)]
  omega
theorem lq_fill {M0 : Mem} {d s0 : Nat} {S : Nat → Nat} {K : Int32 → Int32 → Int32 → Mem → Prop} (hS : CV S) (hC : CC M0 40 S) (hd : d < 2 ^ S 0) (hW : ∀ d', d < d' → d' < 2 ^ S 0 → M0 43 d' = nI (wS S d'))
    (hK : ∀ x M, (∀ a, a ≤ 32 ∨ 39 < a → M a = M0 a) → K (nI (s0 + smB (fun b => if okS S b d then wS S (d ||| 2 ^ b) else 0) (S 0))) (nI (bsB (ldB S d) (S 0))) x M) :
    ∀ (n j : Nat) (M : Mem), j ≤ S 0 → S 0 + 1 ≤ n + j → (∀ a, a ≤ 32 ∨ 39 < a → M a = M0 a) → w_X1_fillRow_17 n (nI d) (nI (s0 + smB (fun b => if okS S b d then wS S (d ||| 2 ^ b) else 0) j)) (nI (bsB (ldB S d) j)) (nI j) M K := by
  intro n
  have h7 := hS.1.2
  have hp := p2_le h7
  induction n with
  | zero => intro j M h1 h2; omega
  | succ n ih =>
    intro j M h1 h2 hM
    unfold w_X1_fillRow_17
    have hCM : CC M 40 S := hC.kept (hM _ (by decide)) (hM _ (by decide)) (hM _ (by decide))
    rw [hCM.1]
    refine ⟨fun z => ?_, fun z => ?_⟩
    · rw [nI_leI (by omega) (by omega)] at z
      have e : j = S 0 := by omega
      subst e
      exact hK _ M hM
    · rw [nI_leI (by omega) (by omega)] at z
      have hj : j < S 0 := by omega
      rw [bit_set d (by omega) j (by omega)]
      refine pw_waysFrom (bit_or_lt d (by omega) j (by omega)) ?_
      refine pw_isUpC hCM hS hj ?_
      have hu := hS.2.2.1 j hj
      -- nothing leads on over j
      have skip : ∀ M', (∀ a, a ≤ 32 ∨ 39 < a → M' a = M0 a) → ldB S d j = false → (okS S j d = true → wS S (d ||| 2 ^ j) = 0) → ∀ y : Int32, y = nI j + nI 1 → w_X1_fillRow_17 n (nI d) (nI (s0 + smB (fun b => if okS S b d then wS S (d ||| 2 ^ b) else 0) j)) (nI (bsB (ldB S d) j)) y M' K := by
        rintro M' hM' hl hz _ rfl
        rw [nI_add]
        have := ih (j + 1) M' (by omega) (by omega) hM'
        rw [show bsB (ldB S d) (j + 1) = bsB (ldB S d) j from if_neg (by rw [hl]; decide)] at this
        rw [show smB (fun b => if okS S b d then wS S (d ||| 2 ^ b) else 0) (j + 1) = smB (fun b => if okS S b d then wS S (d ||| 2 ^ b) else 0) j by
          show _ + (if okS S j d then wS S (d ||| 2 ^ j) else 0) = _
          by_cases c : okS S j d = true
          · rw [if_pos c, hz c]; rfl
          · rw [if_neg c]; rfl] at this
        exact this
      -- and where the bend can be asked for
      have ask : ∀ v, v = 1 - S (9 + j) → (d.testBit j = false → M 43 (d ||| 2 ^ j) = nI (wS S (d ||| 2 ^ j))) → ((M 43 (d ||| 2 ^ j) ≤ 0 → ∀ y9 : Int32, y9 = nI j + (nI 1) → w_X1_fillRow_17 n (nI d) (nI (s0 + smB (fun b => if okS S b d then wS S (d ||| 2 ^ b) else 0) j)) (nI (bsB (ldB S d) j)) y9 M K) ∧ (¬ M 43 (d ||| 2 ^ j) ≤ 0 → w_X2_reason 32 40 (nI j) (nI d) (nI v) M (fun v11 M10 => ((¬ v11 = 0 → ∀ y13 : Int32, y13 = nI j + (nI 1) → w_X1_fillRow_17 n (nI d) (nI (s0 + smB (fun b => if okS S b d then wS S (d ||| 2 ^ b) else 0) j)) (nI (bsB (ldB S d) j)) y13 M10 K) ∧ (v11 = 0 → ∀ y14 : Int32, y14 = (nI (s0 + smB (fun b => if okS S b d then wS S (d ||| 2 ^ b) else 0) j) + M 43 (d ||| 2 ^ j)) → ∀ y15 : Int32, y15 = (nI (bsB (ldB S d) j) ||| ((nI 1) <<< (nI j &&& 31))) → ∀ y16 : Int32, y16 = nI j + (nI 1) → w_X1_fillRow_17 n (nI d) y14 y15 y16 M10 K))))) := by
        rintro v rfl hw
        have hok : okS S j d = decide (rsn S j d (1 - S (9 + j)) = 0) := rfl
        refine ⟨fun c => ?_, fun c => ?_⟩
        · refine skip M hM ?_ (fun q => ?_)
          · unfold ldB
            by_cases q : okS S j d = true
            · have t := okS_P S (S 0) j d hj hd q
              rw [hw t, nI_le0 (wS_lt hS (bit_lt2 _ (by omega) d hd j hj))] at c
              rw [c]; simp
            · simp [q]
          · have t := okS_P S (S 0) j d hj hd q
            rw [hw t, nI_le0 (wS_lt hS (bit_lt2 _ (by omega) d hd j hj))] at c
            exact c
        · refine pw_reason (by decide) hS hCM hj (by omega) (by omega) (fun M' f' => ?_)
          have hM' : ∀ a, a ≤ 32 ∨ 39 < a → M' a = M0 a := fun a ha => by rw [f' a (by omega)]; exact hM a ha
          have hr := rsn_le S j d (1 - S (9 + j))
          refine ⟨fun q => ?_, fun q => ?_⟩
          · have no : okS S j d = false := by
              rw [hok, decide_eq_false_iff_not]
              exact fun q' => q (by rw [q']; rfl)
            refine skip M' hM' (by unfold ldB; rw [no]; rfl) (fun q' => ?_)
            rw [no] at q'; cases q'
          · have yes : okS S j d = true := by
              rw [hok, decide_eq_true_eq]
              exact (nI_z (by omega)).mp q
            have t := okS_P S (S 0) j d hj hd yes
            have hlt := bit_lt2 _ (by omega) d hd j hj
            rw [hw t, nI_le0 (wS_lt hS hlt)] at c
            rintro _ rfl _ rfl _ rfl
            rw [hw t, nI_add, nI_add, bit_set8 j (by omega), nI_or]
            have := ih (j + 1) M' (by omega) (by omega) hM'
            rw [show bsB (ldB S d) (j + 1) = bsB (ldB S d) j ||| 2 ^ j from if_pos (by unfold ldB; rw [yes, Bool.true_and, decide_eq_true_eq]; omega)] at this
            rw [show smB (fun b => if okS S b d then wS S (d ||| 2 ^ b) else 0) (j + 1) = smB (fun b => if okS S b d then wS S (d ||| 2 ^ b) else 0) j + wS S (d ||| 2 ^ j) by
              show _ + (if okS S j d then wS S (d ||| 2 ^ j) else 0) = _
              rw [if_pos yes]] at this
            rw [Nat.add_assoc]
            exact this
      have hw : d.testBit j = false → M 43 (d ||| 2 ^ j) = nI (wS S (d ||| 2 ^ j)) := fun t => by
        rw [hM 43 (by decide)]
        exact hW _ (or_gt d (by omega) j (by omega) t) (bit_lt2 _ (by omega) d hd j hj)
      refine ⟨fun c => ?_, fun c => ?_⟩
      · have e1 : S (9 + j) = 1 := by
          rcases (show S (9 + j) = 0 ∨ S (9 + j) = 1 by omega) with y | y
          · rw [y] at c; exact absurd rfl c
          · exact y
        exact ask 0 (by omega) hw
      · have e1 : S (9 + j) = 0 := (nI_z (by omega)).mp c
        exact ask 1 (by omega) hw
theorem wS_fix {S : Nat → Nat} (hS : CV S) {d : Nat} (hd : d < 2 ^ S 0) : wS S d = (if d = 2 ^ S 0 - 1 then 1 else 0) + smB (fun b => if okS S b d then wS S (d ||| 2 ^ b) else 0) (S 0) := by
  rw [wS_W, wW_fix hS.1.2 (okS_P S _) hd]
  exact congrArg (fun z => (if d = 2 ^ S 0 - 1 then 1 else 0) + z) (smB_congr _ (fun b _ => by rw [wS_W]))
theorem pw_fillRow {M : Mem} {d : Nat} {S : Nat → Nat} {Q : Mem → Prop} (hS : CV S) (hC : CC M 40 S) (hd : d < 2 ^ S 0) (hW : ∀ d', d < d' → d' < 2 ^ S 0 → M 43 d' = nI (wS S d'))
    (hQ : ∀ M', (∀ a, a ≤ 32 ∨ (39 < a ∧ a ≠ 43 ∧ a ≠ 44) → M' a = M a) → M' 43 = upd (M 43) d (nI (wS S d)) → M' 44 = upd (M 44) d (nI (ldS S d)) → Q M') : w_X1_fillRow (nI d) (nI (2 ^ S 0 - 1)) M Q := by
  unfold w_X1_fillRow
  have h7 := hS.1.2
  have hp := p2_le h7
  have fin : ∀ M', (∀ a, a ≤ 32 ∨ 39 < a → M' a = M a) → ((nI d < 0 → Q M') ∧ (¬ nI d < 0 → (((nI 128) ≤ nI d → Q M') ∧ (¬ (nI 128) ≤ nI d → (((nI 128) ≤ nI d → Q M') ∧ (¬ (nI 128) ≤ nI d → (vp_in (nI d) 128 ∧ ∀ M33 : Mem, M33 = um M' 43 (upd (M' 43) (nI d).toNatClampNeg (nI (wS S d))) → (vp_in (nI d) 128 ∧ ∀ M34 : Mem, M34 = um M33 44 (upd (M33 44) (nI d).toNatClampNeg (nI (bsB (ldB S d) (S 0)))) → Q M34)))))))) := by
    intro M' hM'
    have no : ¬ nI 128 ≤ nI d := by rw [nI_leI (by decide) (by omega)]; omega
    have hv : vp_in (nI d) 128 := vp_in_nI (by omega) (by decide)
    rw [nI_clamp (by omega)]
    refine ⟨fun c => absurd c (nI_neg (by omega)), fun _ => ⟨fun c => absurd c no, fun _ => ⟨fun c => absurd c no, fun _ => ⟨hv, fun M1 e1 => ⟨hv, fun M2 e2 => ?_⟩⟩⟩⟩⟩
    refine hQ M2 (fun a ha => ?_) ?_ ?_
    · rw [e2, um_n (by omega), e1, um_n (by omega)]; exact hM' a (by omega)
    · rw [e2, um_n (by decide), e1, um_s, hM' 43 (by decide)]
    · rw [e2, um_s, e1, um_n (by decide), hM' 44 (by decide)]; rfl
  have hfix := wS_fix hS hd
  refine ⟨fun c => ?_, fun c => ?_⟩
  · rw [nI_eq (by omega) (by omega)] at c
    rw [if_neg c] at hfix
    exact lq_fill (s0 := 0) hS hC hd hW (fun x M' hM' => by rw [← hfix]; exact fin M' hM') FU 0 M (Nat.zero_le _) (by show _ ≤ 1000 + 0; omega) (fun _ _ => rfl)
  · rw [nI_eq (by omega) (by omega)] at c
    rw [if_pos c] at hfix
    exact lq_fill (s0 := 1) hS hC hd hW (fun x M' hM' => by rw [← hfix]; exact fin M' hM') FU 0 M (Nat.zero_le _) (by show _ ≤ 1000 + 0; omega) (fun _ _ => rfl)
theorem lq_prep {M0 : Mem} {S : Nat → Nat} {r1 : Nat} {K : Int32 → Mem → Prop} (hS : CV S) (hC : CC M0 40 S)
    (hK : ∀ x M, (∀ a, a ≤ 32 ∨ (39 < a ∧ a ≠ 43 ∧ a ≠ 44) → M a = M0 a) → (∀ d, d < 2 ^ S 0 → M 43 d = nI (wS S d) ∧ M 44 d = nI (ldS S d)) → K x M) :
    ∀ (n k : Nat) (M : Mem), k < 2 ^ S 0 → k + 2 ≤ n → (∀ a, a ≤ 32 ∨ (39 < a ∧ a ≠ 43 ∧ a ≠ 44) → M a = M0 a) → (∀ d, k < d → d < 2 ^ S 0 → M 43 d = nI (wS S d) ∧ M 44 d = nI (ldS S d)) → w_X1_prepare_47 r1 n (nI (2 ^ S 0 - 1)) (nI k) M K := by
  intro n
  have h7 := hS.1.2
  have hp := p2_le h7
  induction n with
  | zero => intro k M h1 h2; omega
  | succ n ih =>
    intro k M h1 h2 hM hT
    unfold w_X1_prepare_47
    refine ⟨fun c => absurd c (nI_neg (by omega)), fun _ => ?_⟩
    refine pw_fillRow hS (hC.kept (hM _ (by decide)) (hM _ (by decide)) (hM _ (by decide))) h1 (fun d' q1 q2 => (hT d' q1 q2).1) (fun M' f' e43 e44 => ?_)
    have hM' : ∀ a, a ≤ 32 ∨ (39 < a ∧ a ≠ 43 ∧ a ≠ 44) → M' a = M0 a := fun a ha => by rw [f' a ha]; exact hM a ha
    have hT' : ∀ d, k ≤ d → d < 2 ^ S 0 → M' 43 d = nI (wS S d) ∧ M' 44 d = nI (ldS S d) := by
      intro d q1 q2
      rw [e43, e44]
      by_cases e : d = k
      · subst e; rw [upd_s, upd_s]; exact ⟨rfl, rfl⟩
      · rw [upd_n e, upd_n e]; exact hT d (by omega) q2
    rintro _ rfl
    by_cases e : k = 0
    · subst e
      rw [show nI 0 + (-1 : Int32) = -1 by decide]
      obtain ⟨n', hn'⟩ : ∃ n', n = n' + 1 := ⟨n - 1, by omega⟩
      subst hn'
      unfold w_X1_prepare_47
      exact ⟨fun _ => hK _ M' hM' (fun d hd => hT' d (Nat.zero_le _) hd), fun c => absurd (by decide) c⟩
    · rw [show k = k - 1 + 1 by omega, pk_m1]
      exact ih (k - 1) M' (by omega) (by omega) hM' (fun d q1 q2 => hT' d (by omega) q2)
theorem lq_like {M : Mem} {S S' : Nat → Nat} {Q K : Int32 → Mem → Prop} (hC : CC M 40 S) (hC' : CC M 1 S') (hS : CV S) (hS' : CV S') (e0 : S 0 = S' 0) (h0 : Q (nI 0) M) (hK : ∀ x, (∀ f, f ≤ S 0 → S (1 + f) = S' (1 + f)) → K x M) :
    ∀ (n j : Nat), j ≤ S 0 + 1 → S 0 + 2 ≤ n + j → (∀ f, f < j → S (1 + f) = S' (1 + f)) → w_X4_bendsLike_26 40 1 n (nI j) M Q K := by
  intro n
  have h7 := hS.1.2
  induction n with
  | zero => intro j h1 h2; omega
  | succ n ih =>
    intro j h1 h2 he
    unfold w_X4_bendsLike_26
    rw [hC.1]
    refine ⟨fun z => ?_, fun z => ?_⟩
    · rw [nI_ltI (by omega) (by omega)] at z
      exact hK _ (fun f hf => he f (by omega))
    · rw [nI_ltI (by omega) (by omega)] at z
      refine pw_lengthAt (by omega) ?_
      refine pw_lengthAt (by omega) ?_
      have l1 := hS.2.1 j (by omega)
      have l2 := hS'.2.1 j (by omega)
      rw [hC.2.2.1 j (by omega), hC'.2.2.1 j (by omega), nI_eq (by omega) (by omega)]
      refine ⟨fun c => ?_, fun _ => h0⟩
      rintro _ rfl
      rw [nI_add]
      refine ih (j + 1) (by omega) (by omega) (fun f hf => ?_)
      by_cases e : f = j
      · subst e; exact c
      · exact he f (by omega)
theorem cor_ext {S S' : Nat → Nat} (h1 : cor S = S) (h2 : cor S' = S') (e0 : S 0 = S' 0) (e1 : ∀ f, f ≤ S 0 → S (1 + f) = S' (1 + f)) (e2 : ∀ b, b < S 0 → S (9 + b) = S' (9 + b)) (e3 : ∀ k, k < 3 → S (18 + k) = S' (18 + k)) : S = S' := by
  rw [← h1, ← h2]
  funext i
  unfold cor
  rw [← e0]
  by_cases c0 : i = 0
  · rw [if_pos c0, if_pos c0]
  · rw [if_neg c0, if_neg c0]
    by_cases c1 : i ≤ 1 + S 0 ∧ i ≤ 8
    · rw [if_pos c1, if_pos c1, show i = 1 + (i - 1) by omega]
      exact e1 _ (by omega)
    · rw [if_neg c1, if_neg c1]
      by_cases c2 : 9 ≤ i ∧ i < 9 + S 0
      · rw [if_pos c2, if_pos c2, show i = 9 + (i - 9) by omega]
        exact e2 _ (by omega)
      · rw [if_neg c2, if_neg c2]
        by_cases c3 : 18 ≤ i ∧ i ≤ 20
        · rw [if_pos c3, if_pos c3, show i = 18 + (i - 18) by omega]
          exact e3 _ (by omega)
        · rw [if_neg c3, if_neg c3]
theorem pw_bendsLike {M : Mem} {S S' : Nat → Nat} {Q : Int32 → Mem → Prop} (hC : CC M 40 S) (hC' : CC M 1 S') (hS : CV S) (hS' : CV S') (hc : cor S = S) (hc' : cor S' = S') (h0 : Q (nI 0) M) (h1 : S = S' → Q (nI 1) M) : w_X4_bendsLike 40 1 M Q := by
  unfold w_X4_bendsLike
  have h7 := hS.1.2
  have h7' := hS'.1.2
  rw [hC.1, hC'.1, nI_eq (by omega) (by omega)]
  refine ⟨fun _ => h0, fun e0 => ⟨fun eu => ?_, fun _ => h0⟩⟩
  have e2 : ∀ b, b < S 0 → S (9 + b) = S' (9 + b) := by
    intro b hb
    have q1 := hC.2.1 b hb
    have q2 := hC'.2.1 b (by omega)
    rw [eu, q2] at q1
    have u1 := hS.2.2.1 b hb
    have u2 := hS'.2.2.1 b (by omega)
    have := nI_inj (by split <;> decide) (by split <;> decide) q1
    by_cases c : S (9 + b) = 1
    · rw [if_pos c] at this
      by_cases c' : S' (9 + b) = 1
      · omega
      · rw [if_neg c'] at this; cases this
    · rw [if_neg c] at this
      by_cases c' : S' (9 + b) = 1
      · rw [if_pos c'] at this; cases this
      · omega
  refine lq_like hC hC' hS hS' e0 h0 (fun x e1 => ?_) FU 0 (Nat.zero_le _) (by show _ ≤ 1000 + 0; omega) (fun f hf => by omega)
  obtain ⟨-, -, -, s18, s19, s20⟩ := hS
  obtain ⟨-, -, -, t18, t19, t20⟩ := hS'
  have a0 : M (40 + 2) 0 = nI (S 18) := hC.2.2.2 0 (by decide)
  have a1 : M (40 + 2) 1 = nI (S 19) := hC.2.2.2 1 (by decide)
  have a2 : M (40 + 2) 2 = nI (S 20) := hC.2.2.2 2 (by decide)
  have b0 : M (1 + 2) 0 = nI (S' 18) := hC'.2.2.2 0 (by decide)
  have b1 : M (1 + 2) 1 = nI (S' 19) := hC'.2.2.2 1 (by decide)
  have b2 : M (1 + 2) 2 = nI (S' 20) := hC'.2.2.2 2 (by decide)
  refine pw_settingAt (by decide) (pw_settingAt (by decide) ?_)
  rw [a0, b0, nI_eq (by omega) (by omega)]
  refine ⟨fun _ => h0, fun c0 => ?_⟩
  refine pw_settingAt (by decide) (pw_settingAt (by decide) ?_)
  rw [a1, b1, nI_eq (by omega) (by omega)]
  refine ⟨fun _ => h0, fun c1 => ?_⟩
  refine pw_settingAt (by decide) (pw_settingAt (by decide) ?_)
  rw [a2, b2, nI_eq (by omega) (by omega)]
  refine ⟨fun _ => h0, fun c2 => h1 (cor_ext hc hc' e0 e1 e2 (fun k hk => ?_))⟩
  rcases (show k = 0 ∨ k = 1 ∨ k = 2 by omega) with rfl | rfl | rfl
  · exact c0
  · exact c1
  · exact c2
theorem pw_allBends {M : Mem} {r n : Nat} {Q : Int32 → Mem → Prop} (hn : M r 0 = nI n) (hn7 : n ≤ 7) (h : Q (nI (2 ^ n - 1)) M) : w_X4_allBends r M Q := by
  unfold w_X4_allBends
  rw [hn, bit_all n (by omega)]
  exact h
theorem pw_prepare {M : Mem} {G : Nat → Nat} {Q : Mem → Prop} (hC : CS M 1 G) (hV : VG G) (hP : PLN M) (hQ : ∀ M', (∀ a, a ≤ 30 → M' a = M a) → PLNS M' (cor G) → Q M') : w_X1_prepare 1 M Q := by
  unfold w_X1_prepare
  have h7 := hV.1.2
  have hp := p2_le h7
  have h17 : G 17 ≤ 1 := hV.2.2.2.2.1
  have make : w_X4_copyFrom 40 1 M (fun M2 => w_X4_allBends 40 M2 (fun v4 M3 => ∀ y5 : Int32, y5 = (if ((nI 128) - (nI 1)) < v4 then ((nI 128) - (nI 1)) else v4) → w_X1_prepare_47 1 FU v4 y5 M3 (fun y9 M10 => ∀ M11 : Mem, M11 = um M10 31 (upd (M10 31) 2 (nI 1)) → Q M11))) := by
    refine pw_copyFrom (by decide) hC h17 (fun M1 c1 _ f1 _ => ?_)
    have hcc := c1.cc hV
    refine pw_allBends c1.1 h7 ?_
    rintro _ rfl
    have em : (if nI 128 - nI 1 < nI (2 ^ G 0 - 1) then nI 128 - nI 1 else nI (2 ^ G 0 - 1)) = nI (2 ^ G 0 - 1) := by
      rw [if_neg]
      rw [pk_sub (by decide), nI_ltI (by decide) (by omega)]
      omega
    rw [em]
    have q := lq_prep (K := fun y9 M10 => ∀ M11 : Mem, M11 = um M10 31 (upd (M10 31) 2 (nI 1)) → Q M11) (r1 := 1) hV.cv hcc (fun x M2 f2 t2 => ?_) FU (2 ^ G 0 - 1) M1 (by rw [cor_0]; have := Nat.one_le_two_pow (n := G 0); omega) (by show _ ≤ 1000; omega) (fun _ _ => rfl) (fun d q1 q2 => by rw [cor_0] at q2; omega)
    · rw [cor_0] at q
      exact q
    · rintro _ rfl
      refine hQ _ (fun a ha => ?_) ⟨by rw [um_s, upd_s], ?_, fun d hd => ?_⟩
      · rw [um_n (by omega), f2 a (by omega), f1 a (by omega) (by omega) (by omega)]
      · exact hcc.kept (by rw [um_n (by decide)]; exact f2 _ (by decide)) (by rw [um_n (by decide)]; exact f2 _ (by decide)) (by rw [um_n (by decide)]; exact f2 _ (by decide))
      · rw [um_n (by decide), um_n (by decide)]
        exact t2 d hd
  rcases hP with h0 | ⟨h1, S, s1, s2, s3, s4⟩
  · rw [h0]
    exact ⟨fun _ => make, fun c => absurd rfl c⟩
  · rw [h1]
    refine ⟨fun c => absurd c (by decide), fun _ => ?_⟩
    refine pw_bendsLike s3 (hC.cc hV) s1 hV.cv s2 cor_cor ⟨fun _ => make, fun c => absurd rfl c⟩ (fun e => ⟨fun c => absurd c (by decide), fun _ => ?_⟩)
    subst e
    exact hQ M (fun _ _ => rfl) ⟨h1, s3, s4⟩
theorem lq_first {M : Mem} {u n0 t : Nat} {Q K : Int32 → Mem → Prop} (h0 : M 40 0 = nI n0) (hn : n0 ≤ 7) (hu : u < 128) (ht : t < n0) (h1 : u.testBit t = true) (h2 : ∀ j, j < t → u.testBit j = false) (hQ : Q (nI t) M) : ∀ (n j : Nat), j ≤ t → t + 1 ≤ n + j → w_X1_firstStep_8 n (nI u) (nI j) M Q K := by
  intro n
  induction n with
  | zero => intro j q1 q2; omega
  | succ n ih =>
    intro j q1 q2
    unfold w_X1_firstStep_8
    rw [h0]
    refine ⟨fun z => ?_, fun z => ?_⟩
    · rw [nI_leI (by omega) (by omega)] at z; omega
    · rw [nbit hu (by omega)]
      refine ⟨fun c => ?_, fun c => ?_⟩
      · rintro _ rfl
        rw [nI_add]
        have : j ≠ t := fun e => c (by rw [e]; exact h1)
        exact ih (j + 1) (by omega) (by omega)
      · have : j = t := by
          refine Classical.byContradiction fun e => ?_
          rw [h2 j (by omega)] at c
          cases c
        rw [this]
        exact hQ
theorem bsB_fs {p : Nat → Bool} {n t : Nat} (h1 : t < n) (h2 : p t = true) (h3 : ∀ j, j < t → p j = false) : (bsB p n).testBit t = true ∧ ∀ j, j < t → (bsB p n).testBit j = false := by
  refine ⟨by rw [bsB_t, h2]; simp [h1], fun j hj => by rw [bsB_t, h3 j hj, Bool.and_false]⟩
theorem pw_firstStep {M : Mem} {d : Nat} {S : Nat → Nat} {Q : Int32 → Mem → Prop} (hP : PLNS M S) (hS : CV S) (hd : d < 2 ^ S 0) (hf : d ≠ 2 ^ S 0 - 1) (hw : 0 < wS S d) (hQ : Q (nI (fs S d)) M) : w_X1_firstStep (nI d) M Q := by
  unfold w_X1_firstStep
  have h7 := hS.1.2
  have hp := p2_le h7
  refine pw_stepsFrom (by omega) ?_
  rw [(hP.2.2 d hd).2, ldS_e]
  obtain ⟨f1, f2, f3⟩ := fs_ok hS hd hf hw
  obtain ⟨g1, g2⟩ := bsB_fs f1 f2 f3
  have hlt : bsB (ldB S d) (S 0) < 128 := Nat.lt_of_lt_of_le (bsB_lt _ _) hp
  exact lq_first hP.2.1.1 h7 hlt f1 g1 g2 hQ FU 0 (Nat.zero_le _) (by show _ ≤ 1000 + 0; omega)
