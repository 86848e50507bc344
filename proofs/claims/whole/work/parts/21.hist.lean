/-! the history on both sides -/
abbrev isR (r : Nat) : Prop := r ∈ [9, 12, 15, 18]
theorem isS_R {r : Nat} (h : isR r) : isS r := by
  simp only [List.mem_cons, List.not_mem_nil, or_false] at h ⊢
  omega
def HC (M : Mem) (k : Nat) (H : Nat → Nat → Nat) : Prop := k ≤ 4 ∧ M 7 0 = nI k ∧ ∃ q : Nat → Nat, (∀ j, j < 4 → isR (q j) ∧ M 8 j = nI (q j)) ∧ (∀ i j, i < 4 → j < 4 → q i = q j → i = j) ∧ ∀ j, j < k → CS M (q j) (H j)
def HM (M : Mem) (k : Nat) (H : Nat → Nat → Nat) : Prop := k ≤ 4 ∧ M 0 2 = nI k ∧ ∀ j, j < k → ∀ i, i < 23 → M 2 (23 * j + i) = nI (H j i)
def pK (k : Nat) : Nat := if k < 4 then k + 1 else 4
def pH (k : Nat) (H : Nat → Nat → Nat) (G : Nat → Nat) : Nat → Nat → Nat := fun j => if k < 4 then (if j = k then G else H j) else (if j = 3 then G else H (j + 1))
theorem isR_lt {r : Nat} (h : isR r) : 9 ≤ r ∧ r ≤ 18 := by
  simp only [List.mem_cons, List.not_mem_nil, or_false] at h
  omega
theorem isR_apart {r s : Nat} (hr : isR r) (hs : isR s) (h : r ≠ s) : r + 2 < s ∨ s + 2 < r := by
  simp only [List.mem_cons, List.not_mem_nil, or_false] at hr hs
  omega
theorem pw_rowAt {M : Mem} {j : Nat} {Q : Int32 → Mem → Prop} (hj : j < 4) (h : Q (M 8 j) M) : w_X0_rowAt (nI j) M Q := by
  unfold w_X0_rowAt
  refine ⟨fun c => absurd c (nI_neg (by omega)), fun _ => ⟨fun c => ?_, fun _ => ⟨vp_in_nI hj (by decide), ?_⟩⟩⟩
  · rw [nI_leI (by decide) (by omega)] at c
    omega
  · rw [nI_clamp (by omega)]
    exact h
theorem lq_drop {M0 : Mem} {q : Nat → Nat} {K : Int32 → Mem → Prop} (hq : ∀ j, j < 4 → isR (q j))
    (h : ∀ M : Mem, (∀ a, a ≠ 8 → M a = M0 a) → (∀ i, i < 4 → M 8 i = nI (if i < 3 then q (i + 1) else q i)) → K (nI 4) M) :
    ∀ (n j : Nat) (M : Mem), 1 ≤ j → j ≤ 4 → 5 ≤ n + j → (∀ a, a ≠ 8 → M a = M0 a) → (∀ i, i < 4 → M 8 i = nI (if i + 1 < j then q (i + 1) else q i)) → w_X0_dropOldest_8 n (nI j) M K := by
  intro n
  induction n with
  | zero => intro j M h1 h2 h3; omega
  | succ n ih =>
    intro j M h1 h2 h3 hM h8
    unfold w_X0_dropOldest_8
    refine ⟨fun c => ?_, fun c => ?_⟩
    · rw [nI_leI (by decide) (by omega)] at c
      have e : j = 4 := by omega
      subst e
      refine h M hM (fun i hi => ?_)
      rw [h8 i hi]
      by_cases c3 : i < 3
      · rw [if_pos c3, if_pos (by omega)]
      · rw [if_neg c3, if_neg (by omega)]
    · rw [nI_leI (by decide) (by omega)] at c
      have hj4 : j < 4 := by omega
      have e8 := h8 j hj4
      rw [if_neg (by omega)] at e8
      have hb := isR_lt (hq j hj4)
      rw [pk_sub h1, nI_clamp (by omega), e8]
      refine ⟨vp_in_nI hj4 (by decide), ⟨nI_neg (by omega), ?_⟩, vp_in_nI (by omega) (by decide), ?_⟩
      · rw [nI_clamp (by omega)]
        exact isS_R (hq j hj4)
      · rintro _ rfl _ rfl
        rw [nI_clamp (by omega), nI_clamp (by omega), nI_add]
        refine ih (j + 1) _ (by omega) (by omega) (by omega) (fun a ha => ?_) (fun i hi => ?_)
        · rw [um_n ha]
          exact hM a ha
        · rw [um_s, upd_a]
          by_cases ci : i = j - 1
          · rw [if_pos ci, if_pos (by omega)]
            subst ci
            rw [show j - 1 + 1 = j by omega]
          · rw [if_neg ci, h8 i hi]
            by_cases c3 : i + 1 < j
            · rw [if_pos c3, if_pos (by omega)]
            · rw [if_neg c3, if_neg (by omega)]
theorem pw_record {M : Mem} {G : Nat → Nat} {k : Nat} {H : Nat → Nat → Nat} {Q : Mem → Prop} (hS : CS M 1 G) (hz : G 17 ≤ 1) (hH : HC M k H)
    (h : ∀ M', HC M' (pK k) (pH k H G) → (∀ a, a < 7 ∨ 20 < a → M' a = M a) → Q M') : w_X0_record 1 M Q := by
  unfold w_X0_record
  obtain ⟨hk, h7, q, hq, hi, hc⟩ := hH
  rw [h7]
  have step : ∀ (M1 : Mem) (q1 : Nat → Nat) (k1 : Nat) (H1 : Nat → Nat → Nat), k1 < 4 → M1 7 0 = nI k1 → (∀ j, j < 4 → isR (q1 j) ∧ M1 8 j = nI (q1 j)) → (∀ i j, i < 4 → j < 4 → q1 i = q1 j → i = j) → (∀ j, j < k1 → CS M1 (q1 j) (H1 j)) → CS M1 1 G → (∀ a, a < 7 ∨ 20 < a → M1 a = M a) →
      (∀ M', HC M' (k1 + 1) (fun j => if j = k1 then G else H1 j) → (∀ a, a < 7 ∨ 20 < a → M' a = M a) → Q M') →
      w_X0_rowAt (nI k1) M1 (fun v3 M2 => ((¬ v3 < 0 ∧ isS v3.toNatClampNeg) ∧ w_X4_copyFrom (v3.toNatClampNeg) 1 M2 (fun M5 => ∀ M6 : Nat → Nat → Int32, M6 = um M5 7 (upd (M5 7) 0 ((M5 7 0) + (nI 1))) → Q M6))) := by
    intro M1 q1 k1 H1 hk1 e7 hq1 hi1 hc1 hS1 hM1 hQ
    refine pw_rowAt hk1 ?_
    have hb := isR_lt (hq1 k1 hk1).1
    rw [(hq1 k1 hk1).2, nI_clamp (by omega)]
    refine ⟨⟨nI_neg (by omega), isS_R (hq1 k1 hk1).1⟩, ?_⟩
    refine pw_copyFrom (by omega) hS1 hz (fun M' c0 c1 hk0 hx => ?_)
    rintro _ rfl
    have e7' : M' 7 = M1 7 := hk0 7 (by omega) (by omega) (by omega)
    have e8' : M' 8 = M1 8 := hk0 8 (by omega) (by omega) (by omega)
    have keep : ∀ a, a ≠ 7 → um M' 7 (upd (M' 7) 0 (M' 7 0 + nI 1)) a = M' a := fun a ha => um_n ha
    refine hQ _ ⟨by omega, ?_, q1, fun j hj => ⟨(hq1 j hj).1, ?_⟩, hi1, fun j hj => ?_⟩ (fun a ha => ?_)
    · rw [um_s, upd_s, e7', e7, nI_add]
    · rw [keep 8 (by decide), e8']
      exact (hq1 j hj).2
    · dsimp only
      by_cases cj : j = k1
      · subst cj
        rw [if_pos rfl]
        exact c0.kept (keep _ (by omega)) (keep _ (by omega)) (keep _ (by omega))
      · rw [if_neg cj]
        have hbj := isR_lt (hq1 j (by omega)).1
        have hap := isR_apart (hq1 j (by omega)).1 (hq1 k1 hk1).1 (fun z => cj (hi1 j k1 (by omega) hk1 z))
        refine (hc1 j (by omega)).kept ?_ ?_ ?_
        · rw [keep _ (by omega)]; exact hk0 _ (by omega) (by omega) (by omega)
        · rw [keep _ (by omega)]; exact hk0 _ (by omega) (by omega) (by omega)
        · rw [keep _ (by omega)]; exact hk0 _ (by omega) (by omega) (by omega)
    · rw [keep a (by omega), hk0 a (by omega) (by omega) (by omega)]
      exact hM1 a ha
  refine ⟨fun c => ?_, fun c => ?_⟩
  · rw [nI_ltI (by omega) (by decide)] at c
    refine step M q k H c h7 hq hi hc hS (fun _ _ => rfl) ?_
    intro M' hH' hM'
    refine h M' ?_ hM'
    unfold pK pH
    simp only [if_pos c]
    exact hH'
  · rw [nI_ltI (by omega) (by decide)] at c
    have e4 : k = 4 := by omega
    subst e4
    unfold w_X0_dropOldest
    refine pw_rowAt (j := 0) (by decide) ?_
    have hb0 := isR_lt (hq 0 (by decide)).1
    rw [(hq 0 (by decide)).2, nI_clamp (by omega)]
    refine ⟨⟨nI_neg (by omega), isS_R (hq 0 (by decide)).1⟩, ?_⟩
    refine lq_drop (M0 := M) (q := q) (fun j hj => (hq j hj).1) (fun M1 hM1 h81 => ?_) FU 1 M (by decide) (by decide) (by decide) (fun _ _ => rfl) (fun i hi4 => by rw [if_neg (by omega)]; exact (hq i hi4).2)
    rintro _ rfl
    rw [um_s, upd_s, show nI 4 - nI 1 = nI 3 by decide]
    refine ⟨vp_in_nI (by decide) (by decide), ?_⟩
    rintro _ rfl
    rw [um_n (show (8 : Nat) ≠ 7 by decide), show (nI 3).toNatClampNeg = 3 by decide]
    have k7 : ∀ a, a ≠ 7 → a ≠ 8 → um (um M1 7 (upd (M1 7) 0 (nI 3))) 8 (upd (M1 8) 3 (nI (q 0))) a = M a := fun a a7 a8 => by rw [um_n a8, um_n a7]; exact hM1 a a8
    have e7 : um (um M1 7 (upd (M1 7) 0 (nI 3))) 8 (upd (M1 8) 3 (nI (q 0))) 7 0 = nI 3 := by rw [um_n (show (7 : Nat) ≠ 8 by decide), um_s, upd_s]
    rw [e7]
    refine step _ (fun i => if i < 3 then q (i + 1) else q 0) 3 (fun j => H (j + 1)) (by decide) e7 (fun j hj => ?_) (fun i j hi4 hj4 e => ?_) (fun j hj => ?_) ?_ (fun a ha => k7 a (by omega) (by omega)) ?_
    · rw [um_s, upd_a]
      by_cases c3 : j = 3
      · subst c3
        exact ⟨(hq 0 (by decide)).1, rfl⟩
      · rw [if_neg c3, h81 j hj]
        simp only [show j < 3 by omega, if_true]
        exact ⟨(hq (j + 1) (by omega)).1, trivial⟩
    · by_cases ci : i < 3 <;> by_cases cj : j < 3 <;> simp only [ci, cj, if_true, if_false] at e
      · have := hi (i + 1) (j + 1) (by omega) (by omega) e
        omega
      · have := hi (i + 1) 0 (by omega) (by omega) e
        omega
      · have := hi 0 (j + 1) (by omega) (by omega) e
        omega
      · omega
    · simp only [hj, if_true]
      have hbj := isR_lt (hq (j + 1) (by omega)).1
      exact (hc (j + 1) (by omega)).kept (k7 _ (by omega) (by omega)) (k7 _ (by omega) (by omega)) (k7 _ (by omega) (by omega))
    · exact hS.kept (k7 _ (by decide) (by decide)) (k7 _ (by decide) (by decide)) (k7 _ (by decide) (by decide))
    · intro M' hH' hM'
      refine h M' ?_ hM'
      unfold pK pH
      simp only [show ¬ (4 < 4) by decide, if_false]
      exact hH'
/-- the reference's row into its history -/
theorem lq_know49 {M0 : Mem} {k : Nat} {K : Int32 → Mem → Prop} (hk : k ≤ 3) (h0 : M0 0 2 = nI k)
    (h : ∀ M : Mem, (∀ a, a ≠ 2 → M a = M0 a) → (∀ i, i < 23 → M 2 (23 * k + i) = M0 1 i) → (∀ p, p < 23 * k → M 2 p = M0 2 p) → K (nI 23) M) :
    ∀ (n j : Nat) (M : Mem), j ≤ 23 → 24 ≤ n + j → (∀ a, a ≠ 2 → M a = M0 a) → (∀ i, i < j → M 2 (23 * k + i) = M0 1 i) → (∀ p, p < 23 * k → M 2 p = M0 2 p) → w_X7_know_49 n (nI j) M K := by
  intro n
  induction n with
  | zero => intro j M h1 h2; omega
  | succ n ih =>
    intro j M h1 h2 hM hd hp
    unfold w_X7_know_49
    rw [hM 0 (by decide), hM 1 (by decide), h0, pk_mul, nI_add, nI_clamp (by omega), nI_clamp (by omega)]
    refine ⟨fun c => ?_, fun c => ?_⟩
    · rw [nI_leI (by decide) (by omega)] at c
      have e : j = 23 := by omega
      subst e
      exact h M hM hd hp
    · rw [nI_leI (by decide) (by omega)] at c
      refine ⟨vp_in_nI (by omega) (by decide), vp_in_nI (by omega) (by decide), ?_⟩
      rintro _ rfl _ rfl
      rw [nI_add]
      refine ih (j + 1) _ (by omega) (by omega) (fun a ha => by rw [um_n ha]; exact hM a ha) (fun i hi => ?_) (fun p hp' => ?_)
      · rw [um_s, upd_a]
        by_cases ci : i = j
        · subst ci; rw [if_pos rfl]
        · rw [if_neg (by omega)]; exact hd i (by omega)
      · rw [um_s, upd_a, if_neg (by omega)]
        exact hp p hp'
theorem lq_know10 {M0 : Mem} {K : Int32 → Mem → Prop}
    (h : ∀ M : Mem, (∀ a, a ≠ 2 → M a = M0 a) → (∀ p, p < 69 → M 2 p = M0 2 (23 + p)) → K (nI 69) M) :
    ∀ (n j : Nat) (M : Mem), j ≤ 69 → 70 ≤ n + j → (∀ a, a ≠ 2 → M a = M0 a) → (∀ p, p < j → M 2 p = M0 2 (23 + p)) → (∀ p, j ≤ p → M 2 p = M0 2 p) → w_X7_know_10 n (nI j) M K := by
  intro n
  induction n with
  | zero => intro j M h1 h2; omega
  | succ n ih =>
    intro j M h1 h2 hM hd hp
    unfold w_X7_know_10
    rw [nI_add, nI_clamp (by omega), nI_clamp (by omega)]
    refine ⟨fun c => ?_, fun c => ?_⟩
    · rw [nI_leI (by decide) (by omega)] at c
      have e : j = 69 := by omega
      subst e
      exact h M hM hd
    · rw [nI_leI (by decide) (by omega)] at c
      refine ⟨vp_in_nI (by omega) (by decide), vp_in_nI (by omega) (by decide), ?_⟩
      rintro _ rfl _ rfl
      rw [nI_add]
      refine ih (j + 1) _ (by omega) (by omega) (fun a ha => by rw [um_n ha]; exact hM a ha) (fun p hp' => ?_) (fun p hp' => ?_)
      · rw [um_s, upd_a]
        by_cases ci : p = j
        · subst ci; rw [if_pos rfl]; exact hp _ (by omega)
        · rw [if_neg ci]; exact hd p (by omega)
      · rw [um_s, upd_a, if_neg (by omega)]
        exact hp p (by omega)
theorem pw_know {M : Mem} {G : Nat → Nat} {k : Nat} {H : Nat → Nat → Nat} {Q : Mem → Prop} (hS : RG (M 1) G) (hH : HM M k H)
    (h : ∀ M', HM M' (pK k) (pH k H G) → (∀ a, a ≠ 0 → a ≠ 2 → M' a = M a) → (∀ j, j ≠ 2 → M' 0 j = M 0 j) → Q M') : w_X7_know M Q := by
  unfold w_X7_know
  obtain ⟨hk, h0, hh⟩ := hH
  rw [h0]
  refine ⟨fun c => ?_, fun c => ?_⟩
  · have c4 : k ≠ 4 := fun e => c (by rw [e])
    refine lq_know49 (M0 := M) (k := k) (by omega) h0 (fun M1 hM1 hd hp => ?_) FU 0 M (by decide) (by decide) (fun _ _ => rfl) (fun i hi => by omega) (fun _ _ => rfl)
    rintro _ rfl
    refine h _ ⟨by unfold pK; split <;> omega, ?_, fun j hj i hi => ?_⟩ (fun a a0 a2 => by rw [um_n a0]; exact hM1 a a2) (fun j hj => by rw [um_s, upd_n hj, hM1 0 (by decide)])
    · rw [um_s, upd_s, hM1 0 (by decide), h0, nI_add]
      unfold pK
      rw [if_pos (by omega)]
    · rw [um_n (by decide)]
      unfold pK at hj
      rw [if_pos (by omega)] at hj
      unfold pH
      rw [if_pos (by omega)]
      by_cases cj : j = k
      · subst cj
        rw [if_pos rfl, hd i hi]
        exact hS i hi
      · rw [if_neg cj, hp _ (by omega)]
        exact hh j (by omega) i hi
  · have e4 : k = 4 := nI_inj (by omega) (by decide) c
    subst e4
    refine lq_know10 (M0 := M) (fun M1 hM1 hd => ?_) FU 0 M (by decide) (by decide) (fun _ _ => rfl) (fun i hi => by omega) (fun _ _ => rfl)
    rintro _ rfl
    have e02 : um M1 0 (upd (M1 0) 2 (M1 0 2 - nI 1)) 0 2 = nI 3 := by
      rw [um_s, upd_s, hM1 0 (by decide), h0]
      decide
    refine lq_know49 (k := 3) (by decide) e02 (fun M2 hM2 hd2 hp2 => ?_) FU 0 _ (by decide) (by decide) (fun _ _ => rfl) (fun i hi => by omega) (fun _ _ => rfl)
    rintro _ rfl
    refine h _ ⟨by decide, ?_, fun j hj i hi => ?_⟩ (fun a a0 a2 => by rw [um_n a0, hM2 a a2, um_n a0]; exact hM1 a a2) (fun j hj => by rw [um_s, upd_n hj, hM2 0 (by decide), um_s, upd_n hj, hM1 0 (by decide)])
    · rw [um_s, upd_s, hM2 0 (by decide), e02]
      decide
    · rw [um_n (by decide)]
      unfold pK at hj
      rw [if_neg (by decide)] at hj
      unfold pH
      rw [if_neg (by decide)]
      by_cases cj : j = 3
      · subst cj
        rw [if_pos rfl, hd2 i hi, um_n (by decide), hM1 1 (by decide)]
        exact hS i hi
      · rw [if_neg cj, hp2 _ (by omega), um_n (by decide), hd _ (by omega), show 23 + (23 * j + i) = 23 * (j + 1) + i by omega]
        exact hh (j + 1) (by omega) i hi
