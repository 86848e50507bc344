/-! the reference's orders -/
theorem nI_and (a b : Nat) : nI a &&& nI b = nI (a &&& b) := by
  apply Int32.toBitVec.inj
  show BitVec.ofNat 32 a &&& BitVec.ofNat 32 b = BitVec.ofNat 32 (a &&& b)
  exact BitVec.ofNat_and.symm
theorem sub_or {d D : Nat} (h : d &&& D = D) (b : Nat) : (d ||| 2 ^ b) &&& D = D := by
  apply Nat.eq_of_testBit_eq
  intro i
  have q := congrArg (fun z => z.testBit i) h
  simp only [Nat.testBit_and, Nat.testBit_or] at q ⊢
  cases h1 : d.testBit i <;> cases h2 : D.testBit i <;> simp [h1, h2] at q ⊢
/-- what the planning leaves as it was -/
def MFR (M M' : Mem) : Prop := (∀ a, 1 ≤ a → a ≤ 4 → M' a = M a) ∧ ∀ s, s ≠ 10 → M' 0 s = M 0 s
theorem MFR.refl (M : Mem) : MFR M M := ⟨fun _ _ _ => rfl, fun _ _ => rfl⟩
theorem MFR.trans {M M1 M2 : Mem} (h1 : MFR M M1) (h2 : MFR M1 M2) : MFR M M2 := ⟨fun a a1 a2 => (h2.1 a a1 a2).trans (h1.1 a a1 a2), fun s hs => (h2.2 s hs).trans (h1.2 s hs)⟩
theorem PFR.m {M M' : Mem} (h : PFR M M') : MFR M M' := ⟨fun a a1 a2 => h.1 a (by omega) (by omega) (by omega) (by omega), h.2⟩
def nxB (S : Nat → Nat) (D d b : Nat) : Bool := decide (d &&& D = D) && okS S b d
theorem lq_next18 {M0 : Mem} {d D : Nat} {S : Nat → Nat} {K : Int32 → Mem → Prop} (hS : CV S) (hC : RC (M0 1) S) (hD : M0 1 16 = nI D) (hD7 : D < 128) (hd : d < 2 ^ S 0)
    (hK : ∀ x M, MFR M0 M → M 9 = M0 9 → (∀ e, e ≠ d → M 8 e = M0 8 e) → M 8 d = nI (bsB (nxB S D d) (S 0)) → K x M) :
    ∀ (n j : Nat) (M : Mem), j ≤ S 0 → S 0 + 1 ≤ n + j → MFR M0 M → M 9 = M0 9 → (∀ e, e ≠ d → M 8 e = M0 8 e) → M 8 d = nI (bsB (nxB S D d) j) → w_X7_findNext_18 n (nI d) (nI j) M K := by
  intro n
  have h7 := hS.1.2
  have hp := p2_le h7
  induction n with
  | zero => intro j M h1 h2; omega
  | succ n ih =>
    intro j M h1 h2 hM h9 h8 hd8
    unfold w_X7_findNext_18
    have row : M 1 = M0 1 := hM.1 1 (by decide) (by decide)
    have hCM : RC (M 1) S := by rw [row]; exact hC
    rw [hCM.1, row, hD, nI_and, nI_eq (show d &&& D < 2 ^ 31 from Nat.lt_of_le_of_lt Nat.and_le_left (by omega)) (by omega)]
    refine ⟨fun z => ?_, fun z => ?_⟩
    · rw [nI_leI (by omega) (by omega)] at z
      have e : j = S 0 := by omega
      subst e
      exact hK _ M hM h9 h8 hd8
    · rw [nI_leI (by omega) (by omega)] at z
      have hj : j < S 0 := by omega
      have hu := hS.2.2.1 j hj
      refine ⟨fun c => ?_, fun c => ?_⟩
      · have e0 : ∀ k, bsB (nxB S D d) k = 0 := fun k => (bsB_0 _ _).mpr (fun i _ => by unfold nxB; rw [decide_eq_false c]; rfl)
        refine hK _ M hM h9 h8 ?_
        rw [hd8, e0, e0]
      · have hv : vp_in (nI d) 128 := vp_in_nI (by omega) (by decide)
        rw [nI_add, nI_clamp (show 9 + j < 2 ^ 31 by omega), nI_clamp (show d < 2 ^ 31 by omega)]
        rw [show M0 1 (9 + j) = nI (S (9 + j)) from hC.2.1 j hj, pk_sub hu]
        refine ⟨hv, vp_in_nI (by omega) (by decide), ?_⟩
        refine pw_reason7 hS hCM hj (by omega) (by omega) (fun M1 f1 => ?_)
        have hr := rsn_le S j d (1 - S (9 + j))
        have hok : nxB S D d j = decide (rsn S j d (1 - S (9 + j)) = 0) := by
          unfold nxB
          rw [decide_eq_true c, Bool.true_and]
          rfl
        have m8 : M1 8 = M 8 := f1.1 8 (by decide) (by decide) (by decide) (by decide)
        have m9 : M1 9 = M 9 := f1.1 9 (by decide) (by decide) (by decide) (by decide)
        have go : ∀ v : Nat, v = bsB (nxB S D d) (j + 1) → ∀ M10 : Mem, M10 = um M1 8 (upd (M1 8) d (nI v)) → w_X7_findNext_18 n (nI d) (nI (j + 1)) M10 K := by
          rintro v hv' M10 e10
          refine ih (j + 1) M10 (by omega) (by omega) (hM.trans (f1.m.trans ⟨fun a a1 a4 => by rw [e10, um_n (by omega)], fun s _ => by rw [e10, um_n (by decide)]⟩)) (by rw [e10, um_n (by decide), m9, h9]) (fun e he => ?_) ?_
          · rw [e10, um_s, upd_n he, m8]; exact h8 e he
          · rw [e10, um_s, upd_s, hv']
        refine ⟨fun q => ⟨hv, ?_⟩, fun q => ⟨hv, ?_⟩⟩
        · rintro M10 e10 _ rfl
          have no : nxB S D d j = false := by
            rw [hok, decide_eq_false_iff_not]
            exact fun q' => q (by rw [q']; rfl)
          rw [nI_add]
          refine go (bsB (nxB S D d) j) (if_neg (by rw [no]; decide)).symm M10 ?_
          rw [e10, hd8, nI_or0]
        · rintro M10 e10 _ rfl
          have yes : nxB S D d j = true := by
            rw [hok, decide_eq_true_eq]
            exact (nI_z (by omega)).mp q
          rw [nI_add]
          refine go (bsB (nxB S D d) j ||| 2 ^ j) (if_pos yes).symm M10 ?_
          rw [e10, hd8, bit_set8 j (by omega), nI_or]
theorem lq_next5 {M0 : Mem} {D : Nat} {S : Nat → Nat} {K : Int32 → Mem → Prop} (hS : CV S) (hC : RC (M0 1) S) (hD : M0 1 16 = nI D) (hD7 : D < 128)
    (hK : ∀ x M, MFR M0 M → M 9 = M0 9 → (∀ d, d < 2 ^ S 0 → M 8 d = nI (bsB (nxB S D d) (S 0))) → K x M) :
    ∀ (n k : Nat) (M : Mem), k < 2 ^ S 0 → k + 2 ≤ n → MFR M0 M → M 9 = M0 9 → (∀ d, k < d → d < 2 ^ S 0 → M 8 d = nI (bsB (nxB S D d) (S 0))) → w_X7_findNext_5 n (nI k) M K := by
  intro n
  have h7 := hS.1.2
  have hp := p2_le h7
  induction n with
  | zero => intro k M h1 h2; omega
  | succ n ih =>
    intro k M h1 h2 hM h9 hT
    unfold w_X7_findNext_5
    have row : M 1 = M0 1 := hM.1 1 (by decide) (by decide)
    refine ⟨fun c => absurd c (nI_neg (by omega)), fun _ => ⟨vp_in_nI (by omega) (by decide), ?_⟩⟩
    rw [nI_clamp (by omega)]
    intro M1 e1
    have f1 : MFR M M1 := ⟨fun a a1 a4 => by rw [e1, um_n (by omega)], fun s _ => by rw [e1, um_n (by decide)]⟩
    refine lq_next18 (M0 := M1) (D := D) hS (by rw [f1.1 1 (by decide) (by decide), row]; exact hC) (by rw [f1.1 1 (by decide) (by decide), row]; exact hD) hD7 h1 (fun x M2 f2 g9 g8 g8d => ?_) FU 0 M1 (Nat.zero_le _) (by show _ ≤ 1000 + 0; omega) (MFR.refl _) rfl (fun _ _ => rfl) (by rw [e1, um_s, upd_s]; rfl)
    have hT' : ∀ d, k ≤ d → d < 2 ^ S 0 → M2 8 d = nI (bsB (nxB S D d) (S 0)) := by
      intro d q1 q2
      by_cases e : d = k
      · subst e; exact g8d
      · rw [g8 d e, e1, um_s, upd_n e]; exact hT d (by omega) q2
    have fa := hM.trans (f1.trans f2)
    have h9' : M2 9 = M0 9 := by rw [g9, e1, um_n (by decide)]; exact h9
    rintro _ rfl
    by_cases e : k = 0
    · subst e
      rw [show nI 0 + (-1 : Int32) = -1 by decide]
      obtain ⟨n', hn'⟩ : ∃ n', n = n' + 1 := ⟨n - 1, by omega⟩
      subst hn'
      unfold w_X7_findNext_5
      exact ⟨fun _ => hK _ M2 fa h9' (fun d hd => hT' d (Nat.zero_le _) hd), fun c => absurd (by decide) c⟩
    · rw [show k = k - 1 + 1 by omega, pk_m1]
      exact ih (k - 1) M2 (by omega) (by omega) fa h9' (fun d q1 q2 => hT' d (by omega) q2)
theorem pw_all7 {M : Mem} {n : Nat} {Q : Int32 → Mem → Prop} (hn : M 1 0 = nI n) (hn7 : n ≤ 7) (h : Q (nI (2 ^ n - 1)) M) : w_X7_all M Q := by
  unfold w_X7_all
  rw [hn, bit_all n (by omega)]
  exact h
def NXT (M : Mem) (S : Nat → Nat) (D : Nat) : Prop := ∀ d, d < 2 ^ S 0 → M 8 d = nI (bsB (nxB S D d) (S 0))
theorem pw_findNext {M : Mem} {D : Nat} {S : Nat → Nat} {Q : Mem → Prop} (hS : CV S) (hC : RC (M 1) S) (hD : M 1 16 = nI D) (hD7 : D < 128) (hQ : ∀ M', MFR M M' → NXT M' S D → Q M') : w_X7_findNext M Q := by
  unfold w_X7_findNext
  have h7 := hS.1.2
  have hp := p2_le h7
  have h1 := Nat.one_le_two_pow (n := S 0)
  refine pw_all7 hC.1 h7 ?_
  exact lq_next5 (K := fun _ M18 => Q M18) hS hC hD hD7 (fun _ M' f _ t => hQ M' f t) FU (2 ^ S 0 - 1) M (by omega) (by show _ ≤ 1000; omega) (MFR.refl M) rfl (fun d q1 q2 => by omega)
/-- the terms of one question of countOrders -/
def MAYQ (x1 x2 : Int32) (cst : Nat → Nat → Bool) (n : Nat) : Prop := ∀ (j d : Nat) (M : Mem) (A1 A0 : Mem → Prop), j < n → d < 128 → (cst j d = true → A1 M) → (cst j d = false → A0 M) → ((¬ nI j = x2 → A1 M) ∧ (nI j = x2 → w_X7_has (nI d) x1 M (fun v24 M23 => ((v24 = 0 → A0 M23) ∧ (¬ v24 = 0 → A1 M23)))))
theorem may_all (n : Nat) (hn : n ≤ 7) : MAYQ (-1005) (-1005) (fun _ _ => true) n := by
  intro j d M A1 A0 hj hd h1 h0
  refine ⟨fun _ => h1 rfl, fun e => ?_⟩
  have : ∀ j, j < 7 → nI j ≠ -1005 := by decide
  exact absurd e (this j (by omega))
def cstB (f s b d : Nat) : Bool := decide (b ≠ s) || d.testBit f
theorem may_two (n f s : Nat) (hn : n ≤ 7) (hf : f < n) (hs : s < n) : MAYQ (nI f) (nI s) (cstB f s) n := by
  intro j d M A1 A0 hj hd h1 h0
  rw [nI_eq (by omega) (by omega)]
  refine ⟨fun c => h1 (by unfold cstB; rw [decide_eq_true c]; rfl), fun c => ?_⟩
  refine pw_has hd (by omega) ?_
  have e : cstB f s j d = d.testBit f := by
    unfold cstB
    rw [decide_eq_false (fun z => z c), Bool.false_or]
  rw [e] at h1 h0
  by_cases q : d.testBit f = true
  · rw [if_pos q]
    exact ⟨fun z => absurd z (by decide), fun _ => h1 q⟩
  · rw [if_neg q]
    exact ⟨fun _ => h0 (by simpa using q), fun z => absurd rfl z⟩
theorem lq_cnt31 {M0 : Mem} {d s0 n0 : Nat} {x1 x2 : Int32} {nx : Nat → Nat → Bool} {cst okC : Nat → Nat → Bool} {K : Int32 → Mem → Prop} (hn : n0 ≤ 7) (hC : M0 1 0 = nI n0) (hd : d < 2 ^ n0) (h8 : M0 8 d = nI (bsB (nx d) n0)) (hm : MAYQ x1 x2 cst n0) (hok : ∀ b, b < n0 → okC b d = (nx d b && cst b d)) (hP : OKP okC n0) (hW : ∀ e, d < e → e < 2 ^ n0 → M0 9 e = nI (wW okC n0 e))
    (hK : ∀ x M, (∀ a, a ≠ 9 → M a = M0 a) → (∀ e, e ≠ d → M 9 e = M0 9 e) → M 9 d = nI (s0 + smB (fun b => if okC b d then wW okC n0 (d ||| 2 ^ b) else 0) n0) → K x M) :
    ∀ (n j : Nat) (M : Mem), j ≤ n0 → n0 + 1 ≤ n + j → (∀ a, a ≠ 9 → M a = M0 a) → (∀ e, e ≠ d → M 9 e = M0 9 e) → M 9 d = nI (s0 + smB (fun b => if okC b d then wW okC n0 (d ||| 2 ^ b) else 0) j) → w_X7_countOrders_31 n x1 x2 (nI d) (nI j) M K := by
  intro n
  have hp := p2_le hn
  induction n with
  | zero => intro j M h1 h2; omega
  | succ n ih =>
    intro j M h1 h2 hM h9 h9d
    unfold w_X7_countOrders_31
    rw [hM 1 (by decide), hC, hM 8 (by decide), nI_clamp (show d < 2 ^ 31 by omega), h8]
    refine ⟨fun z => ?_, fun z => ?_⟩
    · rw [nI_leI (by omega) (by omega)] at z
      have e : j = n0 := by omega
      subst e
      exact hK _ M hM h9 h9d
    · rw [nI_leI (by omega) (by omega)] at z
      have hj : j < n0 := by omega
      have hv : vp_in (nI d) 128 := vp_in_nI (by omega) (by decide)
      have hlt : bsB (nx d) n0 < 128 := Nat.lt_of_lt_of_le (bsB_lt _ _) hp
      have ht : (bsB (nx d) n0).testBit j = nx d j := by rw [bsB_t, decide_eq_true hj, Bool.true_and]
      have ho := bit_set d (by omega) j (by omega)
      have hol := bit_or_lt d (by omega) j (by omega)
      rw [ho, nI_clamp (show d ||| 2 ^ j < 2 ^ 31 by omega)]
      have hvo : vp_in (nI (d ||| 2 ^ j)) 128 := vp_in_nI hol (by decide)
      have A0 : okC j d = false → (vp_in (nI d) 128 ∧ (((nI 0) = 0 → (vp_in (nI d) 128 ∧ ∀ M13 : Mem, M13 = um M 9 (upd (M 9) d ((M 9 d) + (nI 0))) → ∀ y14 : Int32, y14 = nI j + (nI 1) → w_X7_countOrders_31 n x1 x2 (nI d) y14 M13 K)) ∧ (¬ (nI 0) = 0 → (vp_in (nI (d ||| 2 ^ j)) 128 ∧ (vp_in (nI d) 128 ∧ ∀ M15 : Mem, M15 = um M 9 (upd (M 9) d ((M 9 d) + (M 9 (d ||| 2 ^ j)))) → ∀ y16 : Int32, y16 = nI j + (nI 1) → w_X7_countOrders_31 n x1 x2 (nI d) y16 M15 K))))) := by
        intro no
        refine ⟨hv, fun _ => ⟨hv, ?_⟩, fun z => absurd rfl z⟩
        rintro M1 e1 _ rfl
        rw [nI_add]
        refine ih (j + 1) M1 (by omega) (by omega) (fun a ha => by rw [e1, um_n ha]; exact hM a ha) (fun e he => by rw [e1, um_s, upd_n he]; exact h9 e he) ?_
        rw [e1, um_s, upd_s, h9d, nI_add]
        congr 1
        show _ = s0 + (_ + (if okC j d then wW okC n0 (d ||| 2 ^ j) else 0))
        rw [if_neg (by rw [no]; decide)]
        rfl
      have A1 : okC j d = true → (vp_in (nI d) 128 ∧ (((nI 1) = 0 → (vp_in (nI d) 128 ∧ ∀ M13 : Mem, M13 = um M 9 (upd (M 9) d ((M 9 d) + (nI 0))) → ∀ y14 : Int32, y14 = nI j + (nI 1) → w_X7_countOrders_31 n x1 x2 (nI d) y14 M13 K)) ∧ (¬ (nI 1) = 0 → (vp_in (nI (d ||| 2 ^ j)) 128 ∧ (vp_in (nI d) 128 ∧ ∀ M15 : Mem, M15 = um M 9 (upd (M 9) d ((M 9 d) + (M 9 (d ||| 2 ^ j)))) → ∀ y16 : Int32, y16 = nI j + (nI 1) → w_X7_countOrders_31 n x1 x2 (nI d) y16 M15 K))))) := by
        intro yes
        have t := hP j d hj hd yes
        have g := or_gt d (by omega) j (by omega) t
        refine ⟨hv, fun z => absurd z (by decide), fun _ => ⟨hvo, hv, ?_⟩⟩
        rintro M1 e1 _ rfl
        rw [nI_add]
        refine ih (j + 1) M1 (by omega) (by omega) (fun a ha => by rw [e1, um_n ha]; exact hM a ha) (fun e he => by rw [e1, um_s, upd_n he]; exact h9 e he) ?_
        rw [e1, um_s, upd_s, h9d, h9 _ (by omega), hW _ g (bit_lt2 _ (by omega) d hd j hj), nI_add]
        congr 1
        show _ = s0 + (_ + (if okC j d then wW okC n0 (d ||| 2 ^ j) else 0))
        rw [if_pos yes, Nat.add_assoc]
      have hokj := hok j hj
      refine ⟨hv, ?_⟩
      refine pw_has hlt (by omega) ?_
      rw [ht]
      by_cases c : nx d j = true
      · rw [if_pos c]
        rw [c, Bool.true_and] at hokj
        refine ⟨fun z => absurd z (by decide), fun _ => ?_⟩
        have := hm j d M (fun M23 => (vp_in (nI d) 128 ∧ (((nI 1) = 0 → (vp_in (nI d) 128 ∧ ∀ M13 : Mem, M13 = um M23 9 (upd (M23 9) d ((M23 9 d) + (nI 0))) → ∀ y14 : Int32, y14 = nI j + (nI 1) → w_X7_countOrders_31 n x1 x2 (nI d) y14 M13 K)) ∧ (¬ (nI 1) = 0 → (vp_in (nI (d ||| 2 ^ j)) 128 ∧ (vp_in (nI d) 128 ∧ ∀ M15 : Mem, M15 = um M23 9 (upd (M23 9) d ((M23 9 d) + (M23 9 (d ||| 2 ^ j)))) → ∀ y16 : Int32, y16 = nI j + (nI 1) → w_X7_countOrders_31 n x1 x2 (nI d) y16 M15 K)))))) (fun M23 => (vp_in (nI d) 128 ∧ (((nI 0) = 0 → (vp_in (nI d) 128 ∧ ∀ M13 : Mem, M13 = um M23 9 (upd (M23 9) d ((M23 9 d) + (nI 0))) → ∀ y14 : Int32, y14 = nI j + (nI 1) → w_X7_countOrders_31 n x1 x2 (nI d) y14 M13 K)) ∧ (¬ (nI 0) = 0 → (vp_in (nI (d ||| 2 ^ j)) 128 ∧ (vp_in (nI d) 128 ∧ ∀ M15 : Mem, M15 = um M23 9 (upd (M23 9) d ((M23 9 d) + (M23 9 (d ||| 2 ^ j)))) → ∀ y16 : Int32, y16 = nI j + (nI 1) → w_X7_countOrders_31 n x1 x2 (nI d) y16 M15 K)))))) hj (by omega) (fun q => A1 (by rw [hokj]; exact q)) (fun q => A0 (by rw [hokj]; exact q))
        exact this
      · rw [if_neg c]
        refine ⟨fun _ => ?_, fun z => absurd rfl z⟩
        exact A0 (by rw [hokj]; simp [c])
theorem lq_cnt5 {M0 : Mem} {n0 : Nat} {x1 x2 : Int32} {nx : Nat → Nat → Bool} {cst okC : Nat → Nat → Bool} {K : Int32 → Mem → Prop} (hn : n0 ≤ 7) (hC : M0 1 0 = nI n0) (h8 : ∀ d, d < 2 ^ n0 → M0 8 d = nI (bsB (nx d) n0)) (hm : MAYQ x1 x2 cst n0) (hok : ∀ b d, b < n0 → d < 2 ^ n0 → okC b d = (nx d b && cst b d)) (hP : OKP okC n0)
    (hK : ∀ x M, (∀ a, a ≠ 9 → M a = M0 a) → (∀ d, d < 2 ^ n0 → M 9 d = nI (wW okC n0 d)) → K x M) :
    ∀ (n k : Nat) (M : Mem), k < 2 ^ n0 → k + 2 ≤ n → (∀ a, a ≠ 9 → M a = M0 a) → (∀ d, k < d → d < 2 ^ n0 → M 9 d = nI (wW okC n0 d)) → w_X7_countOrders_5 n x1 x2 (nI k) M K := by
  intro n
  have hp := p2_le hn
  induction n with
  | zero => intro k M h1 h2; omega
  | succ n ih =>
    intro k M h1 h2 hM hT
    unfold w_X7_countOrders_5
    refine ⟨fun c => absurd c (nI_neg (by omega)), fun _ => ?_⟩
    refine pw_all7 (by rw [hM 1 (by decide)]; exact hC) hn ?_
    have hv : vp_in (nI k) 128 := vp_in_nI (by omega) (by decide)
    have hfix := wW_fix hn hP h1
    have go : ∀ (s0 : Nat), s0 = (if k = 2 ^ n0 - 1 then 1 else 0) → ∀ M7 : Mem, M7 = um M 9 (upd (M 9) k (nI s0)) → w_X7_countOrders_31 FU x1 x2 (nI k) (nI 0) M7 (fun y36 M37 => ∀ y38 : Int32, y38 = nI k + (-1 : Int32) → w_X7_countOrders_5 n x1 x2 y38 M37 K) := by
      intro s0 hs0 M7 e7
      have f7 : ∀ a, a ≠ 9 → M7 a = M0 a := fun a ha => by rw [e7, um_n ha]; exact hM a ha
      refine lq_cnt31 (M0 := M7) (s0 := s0) (nx := nx) (cst := cst) (okC := okC) hn (by rw [f7 1 (by decide)]; exact hC) h1 (by rw [f7 8 (by decide)]; exact h8 k h1) hm (fun b hb => hok b k hb h1) hP (fun e e1 e2 => by rw [e7, um_s, upd_n (by omega)]; exact hT e e1 e2) (fun x M2 f2 g9 g9d => ?_) FU 0 M7 (Nat.zero_le _) (by show _ ≤ 1000 + 0; omega) (fun _ _ => rfl) (fun _ _ => rfl) (by rw [e7, um_s, upd_s]; rfl)
      rw [hs0, ← hfix] at g9d
      have fa : ∀ a, a ≠ 9 → M2 a = M0 a := fun a ha => by rw [f2 a ha]; exact f7 a ha
      have hT' : ∀ d, k ≤ d → d < 2 ^ n0 → M2 9 d = nI (wW okC n0 d) := by
        intro d q1 q2
        by_cases e : d = k
        · subst e; exact g9d
        · rw [g9 d e, e7, um_s, upd_n e]; exact hT d (by omega) q2
      rintro _ rfl
      by_cases e : k = 0
      · subst e
        rw [show nI 0 + (-1 : Int32) = -1 by decide]
        obtain ⟨n', hn'⟩ : ∃ n', n = n' + 1 := ⟨n - 1, by omega⟩
        subst hn'
        unfold w_X7_countOrders_5
        exact ⟨fun _ => hK _ M2 fa (fun d hd => hT' d (Nat.zero_le _) hd), fun c => absurd (by decide) c⟩
      · rw [show k = k - 1 + 1 by omega, pk_m1]
        exact ih (k - 1) M2 (by omega) (by omega) fa (fun d q1 q2 => hT' d (by omega) q2)
    rw [nI_eq (by omega) (by omega), nI_clamp (by omega)]
    refine ⟨fun c => ⟨hv, fun M7 e7 => go 0 (by rw [if_neg c]) M7 e7⟩, fun c => ⟨hv, fun M7 e7 => go 1 (by rw [if_pos c]) M7 e7⟩⟩
theorem pw_count7 {M : Mem} {S : Nat → Nat} {D : Nat} {x1 x2 : Int32} {cst : Nat → Nat → Bool} {Q : Int32 → Mem → Prop} (hS : CV S) (hC : M 1 0 = nI (S 0)) (hN : NXT M S D) (hD : M 1 16 = nI D) (hDn : D < 2 ^ S 0) (hm : MAYQ x1 x2 cst (S 0))
    (hQ : ∀ M', (∀ a, a ≠ 9 → M' a = M a) → (∀ d, d < 2 ^ S 0 → M' 9 d = nI (wW (fun b d => nxB S D d b && cst b d) (S 0) d)) → Q (nI (wW (fun b d => nxB S D d b && cst b d) (S 0) D)) M') : w_X7_countOrders x1 x2 M Q := by
  unfold w_X7_countOrders
  have h7 := hS.1.2
  have hp := p2_le h7
  have h1 := Nat.one_le_two_pow (n := S 0)
  refine pw_all7 hC h7 ?_
  have hP : OKP (fun b d => nxB S D d b && cst b d) (S 0) := by
    intro b d hb hd q
    have q : (nxB S D d b && cst b d) = true := q
    rw [Bool.and_eq_true] at q
    have q1 := q.1
    unfold nxB at q1
    rw [Bool.and_eq_true] at q1
    exact okS_P S (S 0) b d hb hd q1.2
  refine lq_cnt5 (nx := fun d b => nxB S D d b) (cst := cst) (okC := fun b d => nxB S D d b && cst b d) h7 hC hN hm (fun _ _ _ _ => rfl) hP (fun x M' f t => ?_) FU (2 ^ S 0 - 1) M (by omega) (by show _ ≤ 1000; omega) (fun _ _ => rfl) (fun d q1 q2 => by omega)
  rw [f 1 (by decide), hD, nI_clamp (by omega), t D hDn]
  exact ⟨vp_in_nI (by omega) (by decide), hQ M' f t⟩
/-- the tables of the reference, when all orders were counted -/
def MTB (M : Mem) (S : Nat → Nat) (D : Nat) : Prop := NXT M S D ∧ ∀ d, d < 2 ^ S 0 → d &&& D = D → M 9 d = nI (wS S d)
theorem pw_allOrders {M : Mem} {S : Nat → Nat} {D : Nat} {Q : Int32 → Mem → Prop} (hS : CV S) (hC : RC (M 1) S) (hD : M 1 16 = nI D) (hDn : D < 2 ^ S 0) (hQ : ∀ M', MFR M M' → MTB M' S D → Q (nI (wS S D)) M') : w_X7_allOrders M Q := by
  unfold w_X7_allOrders
  have h7 := hS.1.2
  have hp := p2_le h7
  refine pw_findNext hS hC hD (by omega) (fun M1 f1 n1 => ?_)
  have row : M1 1 = M 1 := f1.1 1 (by decide) (by decide)
  have ag : ∀ d, d &&& D = D → wW (fun b d => nxB S D d b && (fun _ _ => true) b d) (S 0) d = wS S d := by
    intro d hd
    rw [wS_W]
    refine wW_agree (Cl := fun d => d &&& D = D) (fun d b hc _ => ?_) (fun d b hc _ => sub_or hc b) d hd
    show (nxB S D d b && true) = okS S b d
    unfold nxB
    rw [decide_eq_true hc, Bool.and_true, Bool.true_and]
  refine pw_count7 hS (by rw [row]; exact hC.1) n1 (by rw [row]; exact hD) hDn (may_all _ h7) (fun M2 f2 t2 => ?_)
  rw [ag D (Nat.and_self D)]
  refine hQ M2 ⟨fun a a1 a4 => by rw [f2 a (by omega)]; exact f1.1 a a1 a4, fun s hs => by rw [f2 0 (by decide)]; exact f1.2 s hs⟩ ⟨fun d hd => by rw [f2 8 (by decide)]; exact n1 d hd, fun d hd hs => by rw [t2 d hd, ag d hs]⟩
theorem lq_nextOf {M : Mem} {S : Nat → Nat} {D d : Nat} {Q K : Int32 → Mem → Prop} (hS : CV S) (hC : M 1 0 = nI (S 0)) (hT : MTB M S D) (hd : d < 2 ^ S 0) (hs : d &&& D = D) (hf : d ≠ 2 ^ S 0 - 1) (hw : 0 < wS S d) (hQ : Q (nI (fs S d)) M) : ∀ (n j : Nat), j ≤ fs S d → fs S d + 1 ≤ n + j → w_X7_nextOf_2 n (nI d) (nI j) M Q K := by
  intro n
  have h7 := hS.1.2
  have hp := p2_le h7
  obtain ⟨f1, f2, f3⟩ := fs_ok hS hd hf hw
  induction n with
  | zero => intro j q1 q2; omega
  | succ n ih =>
    intro j q1 q2
    unfold w_X7_nextOf_2
    have hj : j < S 0 := by omega
    have hlt : bsB (nxB S D d) (S 0) < 128 := Nat.lt_of_lt_of_le (bsB_lt _ _) hp
    have ht : (bsB (nxB S D d) (S 0)).testBit j = okS S j d := by
      rw [bsB_t, decide_eq_true hj, Bool.true_and]
      unfold nxB
      rw [decide_eq_true hs, Bool.true_and]
    have hol := bit_or_lt d (by omega) j (by omega)
    rw [hC, nI_clamp (show d < 2 ^ 31 by omega), hT.1 d hd, bit_set d (by omega) j (by omega), nI_clamp (show d ||| 2 ^ j < 2 ^ 31 by omega)]
    have hlo := bit_lt2 _ (by omega) d hd j hj
    have hld : ldB S d j = (okS S j d && decide (0 < wS S (d ||| 2 ^ j))) := rfl
    have more : ldB S d j = false → ∀ y : Int32, y = nI j + nI 1 → w_X7_nextOf_2 n (nI d) y M Q K := by
      rintro no _ rfl
      rw [nI_add]
      have : j ≠ fs S d := fun e => by rw [e, f2] at no; cases no
      exact ih (j + 1) (by omega) (by omega)
    refine ⟨fun z => ?_, fun _ => ⟨vp_in_nI (by omega) (by decide), ?_⟩⟩
    · rw [nI_leI (by omega) (by omega)] at z; omega
    refine pw_has hlt (by omega) ?_
    rw [ht]
    by_cases c : okS S j d = true
    · rw [if_pos c]
      rw [c, Bool.true_and] at hld
      refine ⟨fun z => absurd z (by decide), fun _ => ⟨vp_in_nI hol (by decide), ?_⟩⟩
      rw [hT.2 _ hlo (sub_or hs j), nI_le0 (wS_lt hS hlo)]
      refine ⟨fun z => more (by rw [hld, z]; rfl), fun z => ?_⟩
      have : j = fs S d := by
        refine Classical.byContradiction fun e => ?_
        have := f3 j (by omega)
        rw [hld, decide_eq_false_iff_not] at this
        omega
      rw [this]
      exact hQ
    · rw [if_neg c]
      refine ⟨fun _ => more (by rw [hld]; simp [c]), fun z => absurd rfl z⟩
theorem pw_nextOf {M : Mem} {S : Nat → Nat} {D d : Nat} {Q : Int32 → Mem → Prop} (hS : CV S) (hC : M 1 0 = nI (S 0)) (hT : MTB M S D) (hd : d < 2 ^ S 0) (hs : d &&& D = D) (hf : d ≠ 2 ^ S 0 - 1) (hw : 0 < wS S d) (hQ : Q (nI (fs S d)) M) : w_X7_nextOf (nI d) M Q := by
  unfold w_X7_nextOf
  have := (fs_ok hS hd hf hw).1
  have h7 := hS.1.2
  exact lq_nextOf hS hC hT hd hs hf hw hQ FU 0 (Nat.zero_le _) (by show _ ≤ 1000 + 0; omega)
