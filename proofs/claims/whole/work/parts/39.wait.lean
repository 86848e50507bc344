/-! pairs: mustWait -/
theorem nar_b0 : vp_nar .boolean (nI 0) = nI 0 := by decide
theorem nar_b1 : vp_nar .boolean (nI 1) = nI 1 := by decide
theorem lq_cp3 {M0 : Mem} {d : Nat} {x2 x3 : Int32} {K : Int32 → Mem → Prop} (hK : ∀ x M, (∀ a, a ≠ 45 → M a = M0 a) → (∀ j, j < 128 → M 45 j = nI (if j = d then 1 else 0)) → K x M) (hd : d < 128) :
    ∀ (n k : Nat) (M : Mem), k ≤ 128 → 129 ≤ n + k → (∀ a, a ≠ 45 → M a = M0 a) → (∀ j, j < k → M 45 j = nI (if j = d then 1 else 0)) → w_X1_canPrecede_3 n (nI d) x2 x3 (nI k) M K := by
  intro n
  induction n with
  | zero => intro k M h1 h2; omega
  | succ n ih =>
    intro k M h1 h2 hM hj
    unfold w_X1_canPrecede_3
    refine ⟨fun z => ?_, fun z => ?_⟩
    · rw [nI_leI (by decide) (by omega)] at z
      have e : k = 128 := by omega
      subst e
      exact hK _ M hM hj
    · rw [nI_leI (by decide) (by omega)] at z
      have hv : vp_in (nI k) 128 := vp_in_nI (by omega) (by decide)
      rw [nI_clamp (by omega), nI_eq (by omega) (by omega), nar_b0, nar_b1]
      have go : ∀ v : Nat, v = (if k = d then 1 else 0) → ∀ M1 : Mem, M1 = um M 45 (upd (M 45) k (nI v)) → ∀ y : Int32, y = nI k + nI 1 → w_X1_canPrecede_3 n (nI d) x2 x3 y M1 K := by
        rintro v hv M1 e1 _ rfl
        rw [nI_add]
        refine ih (k + 1) M1 (by omega) (by omega) (fun a ha => by rw [e1, um_n ha]; exact hM a ha) (fun j q => ?_)
        rw [e1, um_s, upd_a]
        by_cases e : j = k
        · subst e; rw [if_pos rfl, hv]
        · rw [if_neg e]; exact hj j (by omega)
      exact ⟨fun c => ⟨hv, go 0 (by rw [if_neg c])⟩, fun c => ⟨hv, go 1 (by rw [if_pos c])⟩⟩
/-- reached from i over the bends of u -/
def rch (u i n e : Nat) : Prop := ∃ b, b < n ∧ u.testBit b = true ∧ e = i ||| 2 ^ b
theorem lq_reach {M0 : Mem} {u i n0 : Nat} {K : Int32 → Mem → Prop} (hn : n0 ≤ 7) (h0 : M0 40 0 = nI n0) (hu : u < 128) (hi : i < 128) (hK : ∀ x M, (∀ a, a ≠ 45 → M a = M0 a) → (∀ e, rch u i n0 e → M 45 e = nI 1) → (∀ e, ¬ rch u i n0 e → M 45 e = M0 45 e) → K x M) :
    ∀ (n k : Nat) (M : Mem), k ≤ n0 → n0 + 1 ≤ n + k → (∀ a, a ≠ 45 → M a = M0 a) → (∀ e, rch u i k e → M 45 e = nI 1) → (∀ e, ¬ rch u i k e → M 45 e = M0 45 e) → w_X1_reachFrom_2 n (nI i) (nI u) (nI k) M K := by
  intro n
  induction n with
  | zero => intro k M h1 h2; omega
  | succ n ih =>
    intro k M h1 h2 hM hr hs
    unfold w_X1_reachFrom_2
    rw [hM 40 (by decide), h0]
    refine ⟨fun z => ?_, fun z => ?_⟩
    · rw [nI_leI (by omega) (by omega)] at z
      have e : k = n0 := by omega
      subst e
      exact hK _ M hM hr hs
    · rw [nI_leI (by omega) (by omega)] at z
      rintro _ rfl
      have ho := bit_or_lt i hi k (by omega)
      rw [bit_set i hi k (by omega), nbit hu (by omega)]
      refine ⟨fun c => ?_, fun c => ?_⟩
      · rintro _ rfl
        rw [nI_add]
        have e : ∀ e, rch u i (k + 1) e ↔ rch u i k e := fun e => ⟨fun ⟨b, b1, b2, b3⟩ => ⟨b, by
          have : b ≠ k := fun q => c (by rw [← q]; exact b2)
          omega, b2, b3⟩, fun ⟨b, b1, b2, b3⟩ => ⟨b, by omega, b2, b3⟩⟩
        exact ih (k + 1) M (by omega) (by omega) hM (fun q w => hr q ((e q).mp w)) (fun q w => hs q (fun w' => w ((e q).mpr w')))
      · refine ⟨fun y => absurd y (nI_neg (by omega)), fun _ => ⟨fun y => ?_, fun _ => ⟨vp_in_nI ho (by decide), ?_⟩⟩⟩
        · rw [nI_leI (by decide) (by omega)] at y; omega
        · rintro M1 e1 _ rfl
          rw [nI_clamp (by omega), nar_b1] at e1
          rw [nI_add]
          refine ih (k + 1) M1 (by omega) (by omega) (fun a ha => by rw [e1, um_n ha]; exact hM a ha) (fun q w => ?_) (fun q w => ?_)
          · rw [e1, um_s, upd_a]
            by_cases e : q = i ||| 2 ^ k
            · rw [if_pos e]
            · rw [if_neg e]
              obtain ⟨b, b1, b2, b3⟩ := w
              refine hr q ⟨b, ?_, b2, b3⟩
              have : b ≠ k := fun z => e (by rw [b3, z])
              omega
          · rw [e1, um_s, upd_n (fun e => w ⟨k, by omega, c, e⟩)]
            exact hs q (fun ⟨b, b1, b2, b3⟩ => w ⟨b, by omega, b2, b3⟩)
/-- orders in which f comes ahead of s -/
def wC (S : Nat → Nat) (D f s d : Nat) : Nat := wW (fun b d => nxB S D d b && cstB f s b d) (S 0) d
def NB (S : Nat → Nat) (D f s d : Nat) : Prop := d < 2 ^ S 0 ∧ d &&& D = D ∧ d.testBit f = false ∧ d.testBit s = false
theorem wC_P (S : Nat → Nat) (D f s n : Nat) : OKP (fun b d => nxB S D d b && cstB f s b d) n := by
  intro b d hb hd q
  have q : (nxB S D d b && cstB f s b d) = true := q
  rw [Bool.and_eq_true] at q
  have q1 := q.1
  unfold nxB at q1
  rw [Bool.and_eq_true] at q1
  exact okS_P S n b d hb hd q1.2
theorem wC_sub {S : Nat → Nat} {D f s d : Nat} (h : 0 < wC S D f s d) : 0 < wS S d := by
  rw [wS_W]
  refine wW_mono (fun d b _ q => ?_) d h
  have q : (nxB S D d b && cstB f s b d) = true := q
  rw [Bool.and_eq_true] at q
  have q1 := q.1
  unfold nxB at q1
  rw [Bool.and_eq_true] at q1
  exact q1.2
theorem wC_in {S : Nat → Nat} {D f s : Nat} (hS : CV S) (hf : f < S 0) {d : Nat} (h1 : d &&& D = D) (h2 : d.testBit f = true) : wC S D f s d = wS S d := by
  rw [wS_W]
  refine wW_agree (Cl := fun d => d &&& D = D ∧ d.testBit f = true) (fun d b hc _ => ?_) (fun d b hc _ => ⟨sub_or hc.1 b, ?_⟩) d ⟨h1, h2⟩
  · show (nxB S D d b && cstB f s b d) = okS S b d
    unfold nxB cstB
    rw [decide_eq_true hc.1, hc.2, Bool.or_true, Bool.and_true, Bool.true_and]
  · rw [Nat.testBit_or, hc.2, Bool.true_or]
theorem wC_step {S : Nat → Nat} {D f s d : Nat} (hS : CV S) (hf : f < S 0) (hs : s < S 0) (hfs : f ≠ s) (hd : NB S D f s d) : 0 < wC S D f s d ↔ ldB S d f = true ∨ ∃ b, b < S 0 ∧ b ≠ s ∧ b ≠ f ∧ ldB S d b = true ∧ 0 < wC S D f s (d ||| 2 ^ b) := by
  obtain ⟨d1, d2, d3, d4⟩ := hd
  have h7 := hS.1.2
  have hp := p2_le h7
  have nf : d ≠ 2 ^ S 0 - 1 := fun e => by
    rw [e, full_t _ (by omega) f hf] at d3
    cases d3
  have eok : ∀ b, (nxB S D d b && cstB f s b d) = true ↔ okS S b d = true ∧ b ≠ s := by
    intro b
    unfold nxB cstB
    rw [decide_eq_true d2, d3, Bool.or_false, Bool.true_and, Bool.and_eq_true, decide_eq_true_eq]
  unfold wC
  rw [wW_pos h7 (wC_P S D f s _) d1 nf]
  refine ⟨fun ⟨b, b1, b2, b3⟩ => ?_, fun h => ?_⟩
  · obtain ⟨k1, k2⟩ := (eok b).mp b2
    have hl : ldB S d b = true := by
      unfold ldB
      rw [k1, Bool.true_and, decide_eq_true_eq]
      exact wC_sub b3
    by_cases e : b = f
    · exact Or.inl (by rw [← e]; exact hl)
    · exact Or.inr ⟨b, b1, k2, e, hl, b3⟩
  · rcases h with h | ⟨b, b1, b2, b3, b4, b5⟩
    · have h' := h
      unfold ldB at h
      rw [Bool.and_eq_true, decide_eq_true_eq] at h
      refine ⟨f, hf, (eok f).mpr ⟨h.1, hfs⟩, ?_⟩
      have := wC_in (s := s) hS hf (d := d ||| 2 ^ f) (sub_or d2 f) (by rw [Nat.testBit_or, Nat.testBit_two_pow, decide_eq_true rfl, Bool.or_true])
      unfold wC at this
      rw [this]
      exact h.2
    · have b4' := b4
      unfold ldB at b4
      rw [Bool.and_eq_true] at b4
      exact ⟨b, b1, (eok b).mpr ⟨b4.1, b2⟩, b5⟩
theorem lq_cp44 {M0 : Mem} {S : Nat → Nat} {D f s : Nat} {Q K : Int32 → Mem → Prop} (hS : CV S) (hP : PLNS M0 S) (hf : f < S 0) (hs : s < S 0) (hfs : f ≠ s)
    (hQ : 0 < wC S D f s D → ∀ M, (∀ a, a ≠ 45 → M a = M0 a) → Q (nI 1) M) (hK : ¬ 0 < wC S D f s D → ∀ x M, (∀ a, a ≠ 45 → M a = M0 a) → K x M) :
    ∀ (n i : Nat) (M : Mem), i ≤ 128 → 129 ≤ n + i → (∀ a, a ≠ 45 → M a = M0 a) → (∀ j, i ≤ j → j < 128 → M 45 j = nI 0 ∨ (M 45 j = nI 1 ∧ NB S D f s j)) → (0 < wC S D f s D ↔ ∃ j, i ≤ j ∧ j < 128 ∧ M 45 j = nI 1 ∧ 0 < wC S D f s j) → w_X1_canPrecede_44 n (nI f) (nI s) (nI i) M Q K := by
  intro n
  have h7 := hS.1.2
  have hp := p2_le h7
  have n01 : nI 0 ≠ nI 1 := by decide
  induction n with
  | zero => intro i M h1 h2; omega
  | succ n ih =>
    intro i M h1 h2 hM hR hE
    unfold w_X1_canPrecede_44
    refine ⟨fun z => ?_, fun z => ?_⟩
    · rw [nI_leI (by decide) (by omega)] at z
      refine hK (fun w => ?_) _ M hM
      obtain ⟨j, j1, j2, _⟩ := hE.mp w
      omega
    · rw [nI_leI (by decide) (by omega)] at z
      have hi : i < 128 := by omega
      have hC0 : M 40 0 = nI (S 0) := by rw [hM 40 (by decide)]; exact hP.2.1.1
      rw [nI_clamp (by omega)]
      refine ⟨vp_in_nI hi (by decide), fun c => ?_, fun c => ?_⟩
      · have c0 : M 45 i = nI 0 := by rw [c]; exact nI_0.symm
        rw [nbit (by decide) (by omega), bit_clr 0 (by decide) s (by omega)]
        refine ⟨fun _ => ?_, fun y => absurd y (by simp)⟩
        unfold w_X1_reachFrom
        refine lq_reach (M0 := M) h7 hC0 (by simp) hi (fun x M1 f1 r1 r2 => ?_) FU 0 M (Nat.zero_le _) (by show _ ≤ 1000 + 0; omega) (fun _ _ => rfl) (fun e ⟨b, b1, _⟩ => by omega) (fun _ _ => rfl)
        rintro _ rfl
        rw [nI_add]
        have same : ∀ e, M1 45 e = M 45 e := fun e => r2 e (fun ⟨b, b1, b2, _⟩ => by simp at b2)
        refine ih (i + 1) M1 (by omega) (by omega) (fun a ha => by rw [f1 a ha]; exact hM a ha) (fun j q1 q2 => by rw [same]; exact hR j (by omega) q2) ?_
        rw [hE]
        refine ⟨fun ⟨j, j1, j2, j3, j4⟩ => ⟨j, ?_, j2, by rw [same]; exact j3, j4⟩, fun ⟨j, j1, j2, j3, j4⟩ => ⟨j, by omega, j2, by rw [← same]; exact j3, j4⟩⟩
        have : j ≠ i := fun e => by rw [e, c0] at j3; exact n01 j3
        omega
      · obtain ⟨c1, nb⟩ : M 45 i = nI 1 ∧ NB S D f s i := by
          rcases hR i (Nat.le_refl _) hi with y | y
          · rw [y] at c; exact absurd rfl c
          · exact y
        have hin := nb.1
        refine pw_stepsFrom hi ?_
        rw [hM 44 (by decide), (hP.2.2 i hin).2, ldS_e]
        have hlt : bsB (ldB S i) (S 0) < 128 := Nat.lt_of_lt_of_le (bsB_lt _ _) hp
        have ht : ∀ b, b < S 0 → (bsB (ldB S i) (S 0)).testBit b = ldB S i b := fun b hb => by rw [bsB_t, decide_eq_true hb, Bool.true_and]
        rw [nbit hlt (by omega), ht f hf, bit_clr _ hlt s (by omega)]
        have hstep := wC_step hS hf hs hfs nb
        refine ⟨fun nl => ?_, fun yl => ?_⟩
        · have hu := bit_cl_lt _ hlt s (by omega)
          have hut := fun b (hb : b < S 0) => bit_cl_t _ hlt s (by omega) b (by omega)
          generalize hU : (if (bsB (ldB S i) (S 0)).testBit s = true then bsB (ldB S i) (S 0) - 2 ^ s else bsB (ldB S i) (S 0)) = U at hu hut ⊢
          have hur : ∀ e, rch U i (S 0) e ↔ ∃ b, b < S 0 ∧ b ≠ s ∧ b ≠ f ∧ ldB S i b = true ∧ e = i ||| 2 ^ b := by
            intro e
            refine ⟨fun ⟨b, b1, b2, b3⟩ => ?_, fun ⟨b, b1, b2, b3, b4, b5⟩ => ⟨b, b1, ?_, b5⟩⟩
            · rw [hut b b1, ht b b1, Bool.and_eq_true] at b2
              refine ⟨b, b1, by simpa using b2.1, fun q => nl (by rw [← q]; exact b2.2), b2.2, b3⟩
            · rw [hut b b1, ht b b1, Bool.and_eq_true]
              exact ⟨by simpa using b2, b4⟩
          unfold w_X1_reachFrom
          refine lq_reach (M0 := M) h7 hC0 hu hi (fun x M1 f1 r1 r2 => ?_) FU 0 M (Nat.zero_le _) (by show _ ≤ 1000 + 0; omega) (fun _ _ => rfl) (fun e ⟨b, b1, _⟩ => by omega) (fun _ _ => rfl)
          rintro _ rfl
          rw [nI_add]
          have fact : ∀ b, b < S 0 → b ≠ s → b ≠ f → ldB S i b = true → NB S D f s (i ||| 2 ^ b) ∧ i < i ||| 2 ^ b := by
            intro b b1 b2 b3 b4
            obtain ⟨l1, l2, l3, l4, l5⟩ := ld_facts hS hin b1 b4
            refine ⟨⟨l3, sub_or nb.2.1 b, ?_, ?_⟩, l4⟩
            · rw [bit_or_t i hi b (by omega) f (by omega), nb.2.2.1, decide_eq_false (fun q => b3 q.symm)]; rfl
            · rw [bit_or_t i hi b (by omega) s (by omega), nb.2.2.2, decide_eq_false (fun q => b2 q.symm)]; rfl
          refine ih (i + 1) M1 (by omega) (by omega) (fun a ha => by rw [f1 a ha]; exact hM a ha) (fun j q1 q2 => ?_) ?_
          · by_cases r : rch U i (S 0) j
            · refine Or.inr ⟨r1 j r, ?_⟩
              obtain ⟨b, b1, b2, b3, b4, rfl⟩ := (hur j).mp r
              exact (fact b b1 b2 b3 b4).1
            · rw [r2 j r]; exact hR j (by omega) q2
          · rw [hE]
            refine ⟨fun ⟨j, j1, j2, j3, j4⟩ => ?_, fun ⟨j, j1, j2, j3, j4⟩ => ?_⟩
            · by_cases e : j = i
              · subst e
                rcases hstep.mp j4 with y | ⟨b, b1, b2, b3, b4, b5⟩
                · exact absurd y nl
                · obtain ⟨g1, g2⟩ := fact b b1 b2 b3 b4
                  exact ⟨j ||| 2 ^ b, by omega, bit_or_lt j hi b (by omega), r1 _ ((hur _).mpr ⟨b, b1, b2, b3, b4, rfl⟩), b5⟩
              · refine ⟨j, by omega, j2, ?_, j4⟩
                by_cases r : rch U i (S 0) j
                · exact r1 j r
                · rw [r2 j r]; exact j3
            · by_cases r : rch U i (S 0) j
              · obtain ⟨b, b1, b2, b3, b4, rfl⟩ := (hur j).mp r
                exact ⟨i, Nat.le_refl _, hi, c1, hstep.mpr (Or.inr ⟨b, b1, b2, b3, b4, j4⟩)⟩
              · exact ⟨j, by omega, j2, by rw [← r2 j r]; exact j3, j4⟩
        · exact hQ (hE.mpr ⟨i, Nat.le_refl _, hi, c1, hstep.mpr (Or.inl yl)⟩) M hM
theorem pw_canPrecede {M : Mem} {S : Nat → Nat} {D f s : Nat} {Q : Int32 → Mem → Prop} (hS : CV S) (hP : PLNS M S) (hf : f < S 0) (hs : s < S 0) (hfs : f ≠ s) (hD : NB S D f s D) (h1 : 0 < wC S D f s D → ∀ M', (∀ a, a ≠ 45 → M' a = M a) → Q (nI 1) M') (h0 : ¬ 0 < wC S D f s D → ∀ M', (∀ a, a ≠ 45 → M' a = M a) → Q (nI 0) M') : w_X1_canPrecede (nI D) (nI f) (nI s) M Q := by
  unfold w_X1_canPrecede
  have h7 := hS.1.2
  have hp := p2_le h7
  have hD7 : D < 128 := by have := hD.1; omega
  refine lq_cp3 (M0 := M) (fun x M1 f1 t1 => ?_) hD7 FU 0 M (Nat.zero_le _) (by show _ ≤ 1000 + 0; omega) (fun _ _ => rfl) (fun j hj => by omega)
  rintro _ rfl
  have em : (if nI 0 < nI D then nI D else nI 0) = nI D := by
    by_cases c : 0 < D
    · rw [if_pos (by rw [nI_ltI (by decide) (by omega)]; exact c)]
    · rw [if_neg (by rw [nI_ltI (by decide) (by omega)]; exact c), show D = 0 by omega]
  rw [em]
  have hP1 : PLNS M1 S := ⟨by rw [f1 31 (by decide)]; exact hP.1, hP.2.1.kept (f1 _ (by decide)) (f1 _ (by decide)) (f1 _ (by decide)), fun d q => by rw [f1 43 (by decide), f1 44 (by decide)]; exact hP.2.2 d q⟩
  have tr : ∀ M2 : Mem, (∀ a, a ≠ 45 → M2 a = M1 a) → ∀ a, a ≠ 45 → M2 a = M a := fun M2 f2 a ha => by rw [f2 a ha]; exact f1 a ha
  refine lq_cp44 (M0 := M1) (D := D) hS hP1 hf hs hfs (fun w M2 f2 => h1 w M2 (tr M2 f2)) (fun w x M2 f2 => h0 w M2 (tr M2 f2)) FU D M1 (by omega) (by show _ ≤ 1000 + _; omega) (fun _ _ => rfl) (fun j q1 q2 => ?_) ⟨fun w => ⟨D, Nat.le_refl _, hD7, by rw [t1 D hD7, if_pos rfl], w⟩, fun ⟨j, j1, j2, j3, j4⟩ => ?_⟩
  · rw [t1 j q2]
    by_cases e : j = D
    · subst e; rw [if_pos rfl]; exact Or.inr ⟨rfl, hD⟩
    · rw [if_neg e]; exact Or.inl rfl
  · rw [t1 j j2] at j3
    by_cases e : j = D
    · rw [← e]
      rw [e] at j4 ⊢
      exact j4
    · rw [if_neg e] at j3
      exact absurd j3 (by decide)
theorem pr_mustWait {MC MM : Mem} {a c : Int32} (h : REL MC MM) : w_X6_mustWait a c MC (EQA MM (w_X7_mustWait a c)) := by
  obtain ⟨⟨G, hV, hC, hR⟩, -⟩ := id h
  have h7 := hV.1.2
  have hS := hV.cv
  have hd : G 16 < 2 ^ cor G 0 := by rw [cor_0]; exact hV.2.2.2.1
  have h0 : MM 1 0 = nI (G 0) := hR 0 (by decide)
  have h16 : MM 1 16 = nI (G 16) := hR 16 (by decide)
  -- a bend that is open
  have opn : ∀ (x : Int32) (Q : Int32 → Mem → Prop), ((∀ b, b < G 0 → x ≠ nI b) → Q (nI 0) MC) → (∀ b, b < G 0 → x = nI b → (G 16).testBit b = true → Q (nI 0) MC) → (∀ b, b < G 0 → x = nI b → (G 16).testBit b = false → Q (nI 1) MC) → w_X6_isOpen x MC Q := by
    intro x Q q1 q2 q3
    unfold w_X6_isOpen
    refine pw_hasBend hC.1 h7 (fun hno => ⟨fun _ => q1 hno, fun z => absurd rfl z⟩) (fun b hb e => ⟨fun z => absurd z (by decide), fun _ => ?_⟩)
    subst e
    refine pw_isDone hC.2.2.1 hV.d (by omega) ?_
    by_cases t : (G 16).testBit b = true
    · rw [if_pos t]
      exact ⟨fun _ => q2 b hb rfl t, fun z => absurd z (by decide)⟩
    · rw [if_neg t]
      exact ⟨fun z => absurd rfl z, fun _ => q3 b hb rfl (by simpa using t)⟩
  -- the reference says UNKNOWN where one of them is not open
  have unk : ((∀ b, b < G 0 → a ≠ nI b) ∨ (∀ b, b < G 0 → c ≠ nI b) ∨ (∃ b, b < G 0 ∧ a = nI b ∧ (G 16).testBit b = true) ∨ (∃ b, b < G 0 ∧ c = nI b ∧ (G 16).testBit b = true)) → EQA MM (w_X7_mustWait a c) (-1001) MC := by
    intro hu
    show w_X7_mustWait a c MM _
    unfold w_X7_mustWait
    refine pw_isBend h0 hV.1.1 h7 (fun _ => ⟨fun _ => ⟨rfl, h⟩, fun z => absurd rfl z⟩) (fun b hb e => ⟨fun z => absurd z (by decide), fun _ => ?_⟩)
    refine pw_isBend h0 hV.1.1 h7 (fun _ => ⟨fun _ => ⟨rfl, h⟩, fun z => absurd rfl z⟩) (fun b' hb' e' => ⟨fun z => absurd z (by decide), fun _ => ?_⟩)
    subst e e'
    rw [h16]
    refine pw_has hV.d (by omega) ?_
    by_cases t : (G 16).testBit b = true
    · rw [if_pos t]
      exact ⟨fun _ => ⟨rfl, h⟩, fun z => absurd z (by decide)⟩
    · rw [if_neg t]
      refine ⟨fun z => absurd rfl z, fun _ => ?_⟩
      rw [h16]
      refine pw_has hV.d (by omega) ?_
      by_cases t' : (G 16).testBit b' = true
      · rw [if_pos t']
        exact ⟨fun z => absurd z (by decide), fun _ => ⟨rfl, h⟩⟩
      · exfalso
        rcases hu with hu | hu | ⟨q, q1, q2, q3⟩ | ⟨q, q1, q2, q3⟩
        · exact hu b hb rfl
        · exact hu b' hb' rfl
        · rw [nI_inj (by omega) (by omega) q2] at t; exact t q3
        · rw [nI_inj (by omega) (by omega) q2] at t'; exact t' q3
  unfold w_X6_mustWait
  refine opn a _ (fun hno => ⟨fun _ => unk (Or.inl hno), fun z => absurd rfl z⟩) (fun b hb e t => ⟨fun _ => unk (Or.inr (Or.inr (Or.inl ⟨b, hb, e, t⟩))), fun z => absurd rfl z⟩) (fun f hf ef tf => ⟨fun z => absurd z (by decide), fun _ => ?_⟩)
  refine opn c _ (fun hno => ⟨fun z => absurd rfl z, fun _ => unk (Or.inr (Or.inl hno))⟩) (fun b hb e t => ⟨fun z => absurd rfl z, fun _ => unk (Or.inr (Or.inr (Or.inr ⟨b, hb, e, t⟩)))⟩) (fun s hs es ts => ⟨fun _ => ?_, fun z => absurd z (by decide)⟩)
  subst ef es
  have key : ∀ (Q : Int32 → Mem → Prop), ((¬ nI f = nI s → w_X7_allOrders MM (fun v15 M14 => ((¬ v15 = 0 → w_X7_countOrders (nI f) (nI s) M14 (fun v18 M17 => ((¬ v18 = 0 → Q (nI 0) M17) ∧ (v18 = 0 → Q (nI 1) M17)))) ∧ (v15 = 0 → Q (-1004 : Int32) M14)))) ∧ (nI f = nI s → Q (-1002 : Int32) MM)) → w_X7_mustWait (nI f) (nI s) MM Q := by
    intro Q hQ
    unfold w_X7_mustWait
    refine pw_isBend h0 hV.1.1 h7 (fun hno => absurd rfl (hno f hf)) (fun _ _ _ => ⟨fun z => absurd z (by decide), fun _ => ?_⟩)
    refine pw_isBend h0 hV.1.1 h7 (fun hno => absurd rfl (hno s hs)) (fun _ _ _ => ⟨fun z => absurd z (by decide), fun _ => ?_⟩)
    rw [h16]
    refine pw_has hV.d (by omega) ?_
    rw [tf]
    refine ⟨fun z => absurd rfl z, fun _ => ?_⟩
    rw [h16]
    refine pw_has hV.d (by omega) ?_
    rw [ts]
    exact ⟨fun _ => hQ, fun z => absurd rfl z⟩
  refine ⟨fun ne => ?_, fun e => key _ ⟨fun ne => absurd e ne, fun _ => ⟨rfl, h⟩⟩⟩
  have hfs : f ≠ s := fun e => ne (by rw [e])
  have hfc : f < cor G 0 := by rw [cor_0]; exact hf
  have hsc : s < cor G 0 := by rw [cor_0]; exact hs
  refine pw_hasOrder hC hV h.pln (fun M1 f1 p1 => ⟨fun hw => ⟨fun _ => ?_, fun z => absurd z (by decide)⟩, fun hw => ⟨fun z => absurd rfl z, fun _ => ?_⟩⟩)
  · rw [f1 1 (by decide), hC.2.2.1]
    have fin : ∀ (v : Int32) (M2 : Mem), (∀ a, a ≠ 45 → M2 a = M1 a) → (0 < wC (cor G) (G 16) f s (G 16) → v = nI 0) → (¬ 0 < wC (cor G) (G 16) f s (G 16) → v = nI 1) → EQA MM (w_X7_mustWait (nI f) (nI s)) v M2 := by
      intro v M2 f2 e1 e0
      have p2 : PLNS M2 (cor G) := ⟨by rw [f2 31 (by decide)]; exact p1.1, p1.2.1.kept (f2 _ (by decide)) (f2 _ (by decide)) (f2 _ (by decide)), fun d q => by rw [f2 43 (by decide), f2 44 (by decide)]; exact p1.2.2 d q⟩
      have hr2 : REL M2 MM := h.planC hS cor_cor (fun a ha => by rw [f2 a (by omega)]; exact f1 a ha) p2
      refine key _ ⟨fun _ => ?_, fun e => absurd e ne⟩
      refine pw_allOrders hS (hR.rc hV) h16 hd (fun N1 g1 t1 => ?_)
      rw [nI_z (wS_lt hS hd)]
      refine ⟨fun _ => ?_, fun z => absurd z (by omega)⟩
      have row : N1 1 = MM 1 := g1.1 1 (by decide) (by decide)
      refine pw_count7 hS (by rw [row, cor_0]; exact h0) t1.1 (by rw [row]; exact h16) hd (may_two _ f s (by rw [cor_0]; exact h7) hfc hsc) (fun N2 g2 _ => ?_)
      have hr3 : REL M2 N2 := hr2.planM (g1.trans ⟨fun a a1 a4 => g2 a (by omega), fun q _ => by rw [g2 0 (by decide)]⟩)
      have hlt := wW_lt (by rw [cor_0]; exact h7) (wC_P (cor G) (G 16) f s (cor G 0)) hd
      rw [nI_z hlt]
      exact ⟨fun z => ⟨e1 (Nat.pos_of_ne_zero z), hr3⟩, fun z => ⟨e0 (fun q => absurd z (Nat.ne_of_gt q)), hr3⟩⟩
    refine pw_canPrecede hS p1 hfc hsc hfs ⟨hd, Nat.and_self _, tf, ts⟩ (fun w M2 f2 => ⟨fun _ => pw_asNumber (by decide) ?_, fun z => absurd z (by decide)⟩) (fun w M2 f2 => ⟨fun z => absurd rfl z, fun _ => pw_asNumber (by decide) ?_⟩)
    · exact fin _ M2 f2 (fun _ => rfl) (fun z => absurd w z)
    · exact fin _ M2 f2 (fun z => absurd z w) (fun _ => rfl)
  · refine key _ ⟨fun _ => ?_, fun e => absurd e ne⟩
    refine pw_allOrders hS (hR.rc hV) h16 hd (fun N1 g1 t1 => ?_)
    rw [nI_z (wS_lt hS hd)]
    exact ⟨fun z => absurd hw z, fun _ => ⟨rfl, (h.planC hS cor_cor f1 p1).planM g1⟩⟩
