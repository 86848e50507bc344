/-! how many orders go on from a set: pure part -/
theorem or_gt : ∀ d, d < 128 → ∀ b, b < 7 → d.testBit b = false → d < d ||| 2 ^ b := by decide +kernel
theorem or_self : ∀ d, d < 128 → ∀ b, b < 7 → d.testBit b = true → d ||| 2 ^ b = d := by decide +kernel
theorem pcn_or : ∀ d, d < 128 → ∀ b, b < 7 → d.testBit b = false → pcn (d ||| 2 ^ b) = pcn d + 1 := by decide +kernel
theorem full_t : ∀ n, n < 8 → ∀ b, b < n → (2 ^ n - 1).testBit b = true := by decide +kernel
def wNg (ok : Nat → Nat → Bool) (n : Nat) : Nat → Nat → Nat
  | 0, _ => 0
  | k + 1, d => (if d = 2 ^ n - 1 then 1 else 0) + smB (fun b => if ok b d then wNg ok n k (d ||| 2 ^ b) else 0) n
def wW (ok : Nat → Nat → Bool) (n d : Nat) : Nat := wNg ok n 200 d
def OKP (ok : Nat → Nat → Bool) (n : Nat) : Prop := ∀ b d, b < n → d < 2 ^ n → ok b d = true → d.testBit b = false
theorem p2_le {n : Nat} (hn : n ≤ 7) : 2 ^ n ≤ 128 := Nat.pow_le_pow_right (n := 2) (by decide) hn
theorem wNg_stable {ok : Nat → Nat → Bool} {n : Nat} (hn : n ≤ 7) (hok : OKP ok n) : ∀ k d, d < 2 ^ n → 128 ≤ k + d → wNg ok n (k + 1) d = wNg ok n k d := by
  intro k
  have hp := p2_le hn
  induction k with
  | zero => intro d h1 h2; omega
  | succ k ih =>
    intro d h1 h2
    show _ + smB _ n = _ + smB _ n
    congr 1
    refine smB_congr n (fun b hb => ?_)
    by_cases c : ok b d = true
    · rw [if_pos c, if_pos c]
      have ht := hok b d hb h1 c
      have := or_gt d (by omega) b (by omega) ht
      exact ih _ (bit_lt2 n (by omega) d h1 b hb) (by omega)
    · rw [if_neg c, if_neg c]
theorem wW_fix {ok : Nat → Nat → Bool} {n : Nat} (hn : n ≤ 7) (hok : OKP ok n) {d : Nat} (hd : d < 2 ^ n) : wW ok n d = (if d = 2 ^ n - 1 then 1 else 0) + smB (fun b => if ok b d then wW ok n (d ||| 2 ^ b) else 0) n := by
  have := wNg_stable hn hok 200 d hd (by omega)
  exact this.symm
theorem smB_bd {f : Nat → Nat} {c : Nat} : ∀ n, (∀ j, j < n → f j ≤ c) → smB f n ≤ n * c := fun n h => smB_le n h
theorem smB_zero {f : Nat → Nat} (n : Nat) (h : ∀ j, j < n → f j = 0) : smB f n = 0 := by
  have := smB_bd (f := f) (c := 0) n (fun j hj => by rw [h j hj]; exact Nat.le_refl _)
  omega
theorem smB_pos {f : Nat → Nat} : ∀ n, 0 < smB f n ↔ ∃ j, j < n ∧ 0 < f j := by
  intro n
  induction n with
  | zero => exact ⟨fun h => absurd h (Nat.lt_irrefl 0), fun ⟨j, h, _⟩ => absurd h (Nat.not_lt_zero j)⟩
  | succ n ih =>
    show 0 < smB f n + f n ↔ _
    refine ⟨fun h => ?_, fun ⟨j, h1, h2⟩ => ?_⟩
    · by_cases c : 0 < f n
      · exact ⟨n, by omega, c⟩
      · obtain ⟨j, h1, h2⟩ := ih.mp (by omega)
        exact ⟨j, by omega, h2⟩
    · by_cases e : j = n
      · subst e; omega
      · have := ih.mpr ⟨j, by omega, h2⟩
        omega
/-- going down from the set of all bends -/
theorem down {P : Nat → Prop} {n : Nat} (h : ∀ d, d < 2 ^ n → (∀ d', d < d' → d' < 2 ^ n → P d') → P d) : ∀ d, d < 2 ^ n → P d := by
  have a : ∀ k d, d < 2 ^ n → 2 ^ n ≤ k + d → P d := by
    intro k
    induction k with
    | zero => intro d h1 h2; omega
    | succ k ih =>
      intro d h1 h2
      exact h d h1 (fun d' q1 q2 => ih d' q2 (by omega))
  exact fun d hd => a (2 ^ n) d hd (by omega)
theorem wW_bd {ok : Nat → Nat → Bool} {n : Nat} (hn : n ≤ 7) (hok : OKP ok n) : ∀ d, d < 2 ^ n → wW ok n d ≤ 7 ^ (7 - pcn d) := by
  have hp := p2_le hn
  refine down (fun d hd ih => ?_)
  rw [wW_fix hn hok hd]
  by_cases c : d = 2 ^ n - 1
  · rw [if_pos c, smB_zero n (fun b hb => ?_)]
    · exact Nat.one_le_pow _ _ (by decide)
    · rw [if_neg]
      intro q
      have := hok b d hb hd q
      rw [c, full_t n (by omega) b hb] at this
      cases this
  · rw [if_neg c, Nat.zero_add]
    by_cases z : ∃ b, b < n ∧ ok b d = true
    · obtain ⟨b0, hb0, q0⟩ := z
      have t0 := hok b0 d hb0 hd q0
      have p0 := pcn_or d (by omega) b0 (by omega) t0
      have p1 := pcn_le (d ||| 2 ^ b0) (bit_or_lt d (by omega) b0 (by omega))
      have e : 7 - pcn d = (7 - (pcn d + 1)) + 1 := by omega
      rw [e, Nat.pow_succ, Nat.mul_comm]
      refine Nat.le_trans (smB_bd (c := 7 ^ (7 - (pcn d + 1))) n (fun b hb => ?_)) (Nat.mul_le_mul_right _ hn)
      by_cases q : ok b d = true
      · rw [if_pos q]
        have t := hok b d hb hd q
        have := ih (d ||| 2 ^ b) (or_gt d (by omega) b (by omega) t) (bit_lt2 n (by omega) d hd b hb)
        rw [pcn_or d (by omega) b (by omega) t] at this
        exact this
      · rw [if_neg q]; exact Nat.zero_le _
    · rw [smB_zero n (fun b hb => ?_)]
      · exact Nat.zero_le _
      · rw [if_neg]
        exact fun q => z ⟨b, hb, q⟩
theorem wW_lt {ok : Nat → Nat → Bool} {n d : Nat} (hn : n ≤ 7) (hok : OKP ok n) (hd : d < 2 ^ n) : wW ok n d < 2 ^ 31 := by
  have h1 := wW_bd hn hok d hd
  have h2 : 7 ^ (7 - pcn d) ≤ 7 ^ 7 := Nat.pow_le_pow_right (by decide) (by omega)
  have h3 : (7 : Nat) ^ 7 < 2 ^ 31 := by decide
  omega
theorem wW_pos {ok : Nat → Nat → Bool} {n d : Nat} (hn : n ≤ 7) (hok : OKP ok n) (hd : d < 2 ^ n) (hf : d ≠ 2 ^ n - 1) : 0 < wW ok n d ↔ ∃ b, b < n ∧ ok b d = true ∧ 0 < wW ok n (d ||| 2 ^ b) := by
  rw [wW_fix hn hok hd, if_neg hf, Nat.zero_add, smB_pos]
  refine ⟨fun ⟨b, h1, h2⟩ => ?_, fun ⟨b, h1, h2, h3⟩ => ⟨b, h1, by rw [if_pos h2]; exact h3⟩⟩
  by_cases c : ok b d = true
  · rw [if_pos c] at h2; exact ⟨b, h1, c, h2⟩
  · rw [if_neg c] at h2; exact absurd h2 (Nat.lt_irrefl 0)
theorem wW_agree {ok1 ok2 : Nat → Nat → Bool} {n : Nat} {Cl : Nat → Prop} (h1 : ∀ d b, Cl d → b < n → ok1 b d = ok2 b d) (h2 : ∀ d b, Cl d → b < n → Cl (d ||| 2 ^ b)) : ∀ d, Cl d → wW ok1 n d = wW ok2 n d := by
  have a : ∀ k d, Cl d → wNg ok1 n k d = wNg ok2 n k d := by
    intro k
    induction k with
    | zero => intro d _; rfl
    | succ k ih =>
      intro d hd
      show _ + smB _ n = _ + smB _ n
      congr 1
      refine smB_congr n (fun b hb => ?_)
      rw [h1 d b hd hb, ih _ (h2 d b hd hb)]
  exact fun d hd => a 200 d hd
theorem wW_mono {ok1 ok2 : Nat → Nat → Bool} {n : Nat} (h : ∀ d b, b < n → ok1 b d = true → ok2 b d = true) (d : Nat) (hp : 0 < wW ok1 n d) : 0 < wW ok2 n d := by
  have a : ∀ k d, 0 < wNg ok1 n k d → 0 < wNg ok2 n k d := by
    intro k
    induction k with
    | zero => intro d h; exact absurd h (Nat.lt_irrefl 0)
    | succ k ih =>
      intro d hq
      have hq : 0 < (if d = 2 ^ n - 1 then 1 else 0) + smB (fun b => if ok1 b d then wNg ok1 n k (d ||| 2 ^ b) else 0) n := hq
      show 0 < (if d = 2 ^ n - 1 then 1 else 0) + smB (fun b => if ok2 b d then wNg ok2 n k (d ||| 2 ^ b) else 0) n
      by_cases c : d = 2 ^ n - 1
      · rw [if_pos c]; omega
      · rw [if_neg c, Nat.zero_add, smB_pos] at hq ⊢
        obtain ⟨b, b1, b2⟩ := hq
        refine ⟨b, b1, ?_⟩
        by_cases e : ok1 b d = true
        · rw [if_pos e] at b2
          rw [if_pos (h d b b1 e)]
          exact ih _ b2
        · rw [if_neg e] at b2; exact absurd b2 (Nat.lt_irrefl 0)
  exact a 200 d hp
theorem okS_P (S : Nat → Nat) (n : Nat) : OKP (okS S) n := by
  intro b d _ _ h
  unfold okS at h
  rw [decide_eq_true_eq] at h
  exact rsn_0 h
theorem wS_W (S : Nat → Nat) (d : Nat) : wS S d = wW (okS S) (S 0) d := by
  have a : ∀ k d, wN S k d = wNg (okS S) (S 0) k d := by
    intro k
    induction k with
    | zero => intro d; rfl
    | succ k ih =>
      intro d
      show _ + smB _ _ = _ + smB _ _
      congr 1
      refine smB_congr _ (fun b hb => ?_)
      rw [ih]
  exact a 200 d
/-- the bends that can be done and lead on -/
def ldB (S : Nat → Nat) (d b : Nat) : Bool := okS S b d && decide (0 < wS S (d ||| 2 ^ b))
theorem ldS_e (S : Nat → Nat) (d : Nat) : ldS S d = bsB (ldB S d) (S 0) := rfl
/-- the first of a set -/
def fsF (p : Nat → Bool) : Nat → Nat
  | 0 => 0
  | n + 1 => if bsB p n ≠ 0 then fsF p n else n
theorem fsF_ok (p : Nat → Bool) : ∀ n, bsB p n ≠ 0 → fsF p n < n ∧ p (fsF p n) = true ∧ ∀ j, j < fsF p n → p j = false := by
  intro n
  induction n with
  | zero => intro h; exact absurd rfl h
  | succ n ih =>
    intro h
    show (if bsB p n ≠ 0 then fsF p n else n) < n + 1 ∧ p (if bsB p n ≠ 0 then fsF p n else n) = true ∧ ∀ j, j < (if bsB p n ≠ 0 then fsF p n else n) → p j = false
    by_cases c : bsB p n ≠ 0
    · obtain ⟨h1, h2, h3⟩ := ih c
      simp only [if_pos c]
      exact ⟨by omega, h2, h3⟩
    · simp only [if_neg c]
      have c0 : bsB p n = 0 := Classical.not_not.mp c
      refine ⟨by omega, ?_, fun j hj => (bsB_0 p n).mp c0 j hj⟩
      by_cases q : p n = true
      · exact q
      · have : bsB p (n + 1) = bsB p n := if_neg q
        rw [this] at h
        exact absurd c0 h
def fs (S : Nat → Nat) (d : Nat) : Nat := fsF (ldB S d) (S 0)
theorem fs_ok {S : Nat → Nat} {d : Nat} (hS : CV S) (hd : d < 2 ^ S 0) (hf : d ≠ 2 ^ S 0 - 1) (hw : 0 < wS S d) : fs S d < S 0 ∧ ldB S d (fs S d) = true ∧ ∀ j, j < fs S d → ldB S d j = false := by
  refine fsF_ok _ _ (fun h0 => ?_)
  rw [wS_W, wW_pos hS.1.2 (okS_P S _) hd hf] at hw
  obtain ⟨b, b1, b2, b3⟩ := hw
  have := (bsB_0 _ _).mp h0 b b1
  unfold ldB at this
  rw [b2, wS_W, decide_eq_true b3] at this
  cases this
theorem ld_facts {S : Nat → Nat} {d b : Nat} (hS : CV S) (hd : d < 2 ^ S 0) (hb : b < S 0) (h : ldB S d b = true) : d.testBit b = false ∧ 0 < wS S (d ||| 2 ^ b) ∧ d ||| 2 ^ b < 2 ^ S 0 ∧ d < d ||| 2 ^ b ∧ pcn (d ||| 2 ^ b) = pcn d + 1 := by
  unfold ldB at h
  rw [Bool.and_eq_true, decide_eq_true_eq] at h
  have h7 := hS.1.2
  have hp := p2_le h7
  have ht := okS_P S (S 0) b d hb hd h.1
  exact ⟨ht, h.2, bit_lt2 _ (by omega) d hd b hb, or_gt d (by omega) b (by omega) ht, pcn_or d (by omega) b (by omega) ht⟩
theorem pcn_full : ∀ n, n < 8 → ∀ d, d < 2 ^ n → (pcn d ≤ n ∧ (pcn d = n ↔ d = 2 ^ n - 1)) := by decide +kernel
/-! the reference's orders -/
theorem nI_and (a b : Nat) : nI a &&& nI b = nI (a &&& b) := by
  apply Int32.toBitVec.inj
  show BitVec.ofNat 32 a &&& BitVec.ofNat 32 b = BitVec.ofNat 32 (a &&& b)
  exact BitVec.ofNat_and.symm
theorem sub_or {d D : Nat} (h : d &&& D = D) (b : Nat) : (d ||| 2 ^ b) &&& D = D := by
  apply Nat.eq_of_testBit_eq
  intro i
  have q := congrArg (fun z => z.testBit i) h
  simp only [Nat.testBit_and, Nat.testBit_or] at q ⊢
  cases h1 : d.testBit i <;> cases h2 : D.testBit i <;> simp [h1, h2] at q ⊢
def nxB (S : Nat → Nat) (D d b : Nat) : Bool := decide (d &&& D = D) && okS S b d
def cstB (f s b d : Nat) : Bool := decide (b ≠ s) || d.testBit f
