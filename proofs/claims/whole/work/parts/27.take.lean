/-! takeStrip -/
def alC (c : Nat → Nat) (i : Nat) : Prop := i ≤ 14 ∧ (i % 2 = 0 → 49 ≤ c i ∧ c i ≤ 57) ∧ (i % 2 ≠ 0 → c i = 117 ∨ c i = 100)
theorem zc_n {q : Nat} (h : q < 65536) : zc (nI q) := (pk_charN h).1
theorem pw_signAt {M : Mem} {t i : Nat} {c : Nat → Nat} {Q : Int32 → Mem → Prop} (ht : t ≤ 60) (h0 : M 21 0 = nI t) (hc : ∀ i, i < t → c i < 65536 ∧ M 22 i = nI (c i)) (hi : i < t) (h : Q (nI (c i)) M) : w_X5_signAt (nI i) M Q := by
  unfold w_X5_signAt
  rw [h0, nI_clamp (by omega), (hc i hi).2]
  refine ⟨fun _ => absurd ‹nI i < 0› (nI_neg (by omega)), fun _ => ⟨fun z => ?_, fun _ => ⟨fun z => ?_, fun _ => ⟨vp_in_nI (by omega) (by decide), zc_n (hc i hi).1, h⟩⟩⟩⟩
  · rw [nI_leI (by omega) (by omega)] at z; omega
  · rw [nI_leI (by decide) (by omega)] at z; omega
theorem pw_isAllowed {M : Mem} {t i : Nat} {c : Nat → Nat} {Q : Int32 → Mem → Prop} (ht : t ≤ 60) (h0 : M 21 0 = nI t) (hc : ∀ i, i < t → c i < 65536 ∧ M 22 i = nI (c i)) (hi : i < t) (hy : alC c i → Q (nI 1) M) (hn : ¬ alC c i → Q (nI 0) M) : w_X5_isAllowed (nI i) M Q := by
  unfold w_X5_isAllowed
  have hb := (hc i hi).1
  refine pw_signAt ht h0 hc hi ?_
  rw [pk_rem (by omega) (by decide) (by decide)]
  refine ⟨fun z => ⟨fun o => ⟨fun e => hy ?_, fun e => ⟨fun e2 => hn ?_, fun e2 => hy ?_⟩⟩, fun o => ⟨fun e => hn ?_, fun e => ⟨fun e2 => hn ?_, fun e2 => hy ?_⟩⟩⟩, fun z => hn ?_⟩
  all_goals (first | rw [nI_leI (by omega) (by decide)] at z | skip)
  · have e := nI_inj (by omega) (by decide) e
    have o : i % 2 ≠ 0 := fun y => o (by rw [y]; rfl)
    exact ⟨z, fun y => absurd y o, fun _ => Or.inl e⟩
  · have o : i % 2 ≠ 0 := fun y => o (by rw [y]; rfl)
    rintro ⟨-, -, q⟩
    rcases q o with q | q
    · exact e (by rw [q])
    · exact e2 (by rw [q])
  · have o : i % 2 ≠ 0 := fun y => o (by rw [y]; rfl)
    exact ⟨z, fun y => absurd y o, fun _ => Or.inr (nI_inj (by omega) (by decide) e2)⟩
  · rw [nI_ltI (by omega) (by decide)] at e
    have o : i % 2 = 0 := (nI_z (by omega)).mp o
    rintro ⟨-, q, -⟩
    have := q o
    omega
  · rw [nI_ltI (by decide) (by omega)] at e2
    have o : i % 2 = 0 := (nI_z (by omega)).mp o
    rintro ⟨-, q, -⟩
    have := q o
    omega
  · rw [nI_ltI (by omega) (by decide)] at e
    rw [nI_ltI (by decide) (by omega)] at e2
    have o : i % 2 = 0 := (nI_z (by omega)).mp o
    exact ⟨z, fun _ => by omega, fun y => absurd o y⟩
  · rintro ⟨q, -, -⟩
    omega
theorem lq_fault5 {M : Mem} {t : Nat} {c : Nat → Nat} {Q K : Int32 → Mem → Prop} (ht : t ≤ 60) (h0 : M 21 0 = nI t) (hc : ∀ i, i < t → c i < 65536 ∧ M 22 i = nI (c i))
    (hbad : ∀ i, i < t → (∀ j, j < i → alC c j) → ¬ alC c i → Q (nI i) M) (hok : (∀ i, i < t → alC c i) → K (nI t) M) :
    ∀ (n j : Nat), j ≤ t → t + 1 ≤ n + j → (∀ i, i < j → alC c i) → w_X5_fault_2 n (nI j) M Q K := by
  intro n
  induction n with
  | zero => intro j h1 h2; omega
  | succ n ih =>
    intro j h1 h2 hal
    unfold w_X5_fault_2
    rw [h0]
    refine ⟨fun z => ?_, fun z => ?_⟩
    · rw [nI_leI (by omega) (by omega)] at z
      have e : j = t := by omega
      subst e
      exact hok hal
    · rw [nI_leI (by omega) (by omega)] at z
      refine pw_isAllowed ht h0 hc (by omega) (fun q => ⟨fun _ => ?_, fun y => absurd y (by decide)⟩) (fun q => ⟨fun y => absurd rfl y, fun _ => hbad j (by omega) hal q⟩)
      rintro _ rfl
      rw [nI_add]
      refine ih (j + 1) (by omega) (by omega) (fun i hi => ?_)
      rcases (show i < j ∨ i = j by omega) with y | y
      · exact hal i y
      · rw [y]; exact q
theorem lq_fault7 {M : Mem} {t : Nat} {c : Nat → Nat} {Q K : Int32 → Mem → Prop} (ht : t ≤ 60) (h0 : M 0 6 = nI t) (hc : ∀ i, i < t → c i < 65536 ∧ M 4 i = nI (c i))
    (hbad : ∀ i, i < t → (∀ j, j < i → alC c j) → ¬ alC c i → Q (nI i) M) (hok : (∀ i, i < t → alC c i) → K (nI t) M) :
    ∀ (n j : Nat), j ≤ t → t + 1 ≤ n + j → (∀ i, i < j → alC c i) → w_X7_fault_2 n (nI j) M Q K := by
  intro n
  induction n with
  | zero => intro j h1 h2; omega
  | succ n ih =>
    intro j h1 h2 hal
    unfold w_X7_fault_2
    rw [h0]
    refine ⟨fun z => ?_, fun z => ?_⟩
    · rw [nI_leI (by omega) (by omega)] at z
      have e : j = t := by omega
      subst e
      exact hok hal
    · rw [nI_leI (by omega) (by omega)] at z
      have hj : j < t := by omega
      have hb := (hc j hj).1
      rw [nI_clamp (by omega), (hc j hj).2, pk_rem (by omega) (by decide) (by decide)]
      have next : alC c j → ∀ y : Int32, y = nI j + nI 1 → w_X7_fault_2 n y M Q K := by
        rintro q _ rfl
        rw [nI_add]
        refine ih (j + 1) (by omega) (by omega) (fun i hi => ?_)
        rcases (show i < j ∨ i = j by omega) with y | y
        · exact hal i y
        · rw [y]; exact q
      have last : (j ≤ 14 → alC c j) → ((nI j ≤ nI 14 → ∀ y : Int32, y = nI j + nI 1 → w_X7_fault_2 n y M Q K) ∧ (¬ nI j ≤ nI 14 → Q (nI j) M)) := by
        intro q
        refine ⟨fun y => next (q ?_), fun y => hbad j hj hal (fun w => ?_)⟩
        · rw [nI_leI (by omega) (by decide)] at y; exact y
        · rw [nI_leI (by omega) (by decide)] at y; exact y w.1
      refine ⟨fun o => ⟨vp_in_nI (by omega) (by decide), fun e => ⟨fun y => absurd y (by decide), fun _ => last ?_⟩, fun e => ⟨vp_in_nI (by omega) (by decide), fun e2 => ⟨fun _ => hbad j hj hal ?_, fun y => absurd rfl y⟩, fun e2 => ⟨fun y => absurd y (by decide), fun _ => last ?_⟩⟩⟩, fun o => ⟨vp_in_nI (by omega) (by decide), ?_⟩⟩
      · have o : j % 2 ≠ 0 := fun y => o (by rw [y]; rfl)
        exact fun h14 => ⟨h14, fun y => absurd y o, fun _ => Or.inl (nI_inj (by omega) (by decide) e)⟩
      · have o : j % 2 ≠ 0 := fun y => o (by rw [y]; rfl)
        rintro ⟨-, -, q⟩
        rcases q o with q | q
        · exact e (by rw [q])
        · exact e2 (by rw [q])
      · have o : j % 2 ≠ 0 := fun y => o (by rw [y]; rfl)
        exact fun h14 => ⟨h14, fun y => absurd y o, fun _ => Or.inr (nI_inj (by omega) (by decide) e2)⟩
      · have o : j % 2 = 0 := (nI_z (by omega)).mp o
        refine pw_in (fun w => ⟨fun _ => hbad j hj hal ?_, fun y => absurd rfl y⟩) (fun w1 w2 => ⟨fun y => absurd y (by decide), fun _ => last ?_⟩)
        · rw [nI_ltI (by omega) (by decide), nI_ltI (by decide) (by omega)] at w
          rintro ⟨-, q, -⟩
          have := q o
          omega
        · rw [nI_ltI (by omega) (by decide)] at w1
          rw [nI_ltI (by decide) (by omega)] at w2
          exact fun h14 => ⟨h14, fun _ => by omega, fun y => absurd o y⟩
def okT (c : Nat → Nat) (t : Nat) : Prop := (∀ i, i < t → alC c i) ∧ 3 ≤ t ∧ t % 2 = 1
theorem pw_fault5 {M : Mem} {t : Nat} {c : Nat → Nat} {Q : Int32 → Mem → Prop} (ht : t ≤ 60) (h0 : M 21 0 = nI t) (hc : ∀ i, i < t → c i < 65536 ∧ M 22 i = nI (c i))
    (hbad : ∀ i, i ≤ t → ¬ okT c t → (∀ j, j < i → alC c j) → (i < t → ¬ alC c i) → Q (nI i) M) (hok : okT c t → Q (-1) M) : w_X5_fault M Q := by
  unfold w_X5_fault
  refine lq_fault5 ht h0 hc (fun i hi h1 h2 => hbad i (by omega) (fun z => h2 (z.1 i hi)) h1 (fun _ => h2)) (fun hal => ?_) FU 0 (Nat.zero_le _) (by show t + 1 ≤ 1000 + 0; omega) (fun i hi => by omega)
  rw [h0, pk_rem (by omega) (by decide) (by decide)]
  have end_ : ¬ okT c t → Q (nI t) M := fun z => hbad t (Nat.le_refl t) z hal (fun y => absurd y (Nat.lt_irrefl t))
  refine ⟨fun z => ⟨fun _ => end_ ?_, fun y => absurd rfl y⟩, fun z => ⟨fun o => ⟨fun _ => end_ ?_, fun y => absurd rfl y⟩, fun o => ⟨fun y => absurd y (by decide), fun _ => hok ?_⟩⟩⟩
  · rw [nI_ltI (by omega) (by decide)] at z
    exact fun w => by have := w.2.1; omega
  · exact fun w => o (by rw [w.2.2])
  · rw [nI_ltI (by omega) (by decide)] at z
    exact ⟨hal, by omega, nI_inj (by omega) (by decide) o⟩
theorem pw_fault7 {M : Mem} {t : Nat} {c : Nat → Nat} {Q : Int32 → Mem → Prop} (ht : t ≤ 60) (h0 : M 0 6 = nI t) (hc : ∀ i, i < t → c i < 65536 ∧ M 4 i = nI (c i))
    (hbad : ∀ i, i ≤ t → ¬ okT c t → (∀ j, j < i → alC c j) → (i < t → ¬ alC c i) → Q (nI i) M) (hok : okT c t → Q (-1005) M) : w_X7_fault M Q := by
  unfold w_X7_fault
  refine lq_fault7 ht h0 hc (fun i hi h1 h2 => hbad i (by omega) (fun z => h2 (z.1 i hi)) h1 (fun _ => h2)) (fun hal => ?_) FU 0 (Nat.zero_le _) (by show t + 1 ≤ 1000 + 0; omega) (fun i hi => by omega)
  rw [h0, pk_rem (by omega) (by decide) (by decide)]
  have end_ : ¬ okT c t → Q (nI t) M := fun z => hbad t (Nat.le_refl t) z hal (fun y => absurd y (Nat.lt_irrefl t))
  refine ⟨fun z => end_ ?_, fun z => ⟨fun o => hok ?_, fun o => end_ ?_⟩⟩
  · rw [nI_ltI (by omega) (by decide)] at z
    exact fun w => by have := w.2.1; omega
  · rw [nI_ltI (by omega) (by decide)] at z
    refine ⟨hal, by omega, ?_⟩
    have : t % 2 ≠ 0 := fun y => o (by rw [y]; rfl)
    omega
  · have o : t % 2 = 0 := (nI_z (by omega)).mp o
    exact fun w => by have := w.2.2; omega
/-- the new strip -/
def tkG (c : Nat → Nat) (n : Nat) (G : Nat → Nat) : Nat → Nat := fun i => if i = 0 then n else if i ≤ 1 + n then c (2 * (i - 1)) - 48 else if 9 ≤ i ∧ i < 9 + n then (if c (2 * (i - 9) + 1) = 117 then 1 else 0) else if i = 16 ∨ i = 17 then 0 else G i
theorem tkG_f {c : Nat → Nat} {n : Nat} {G : Nat → Nat} {f : Nat} (h : f ≤ n) : tkG c n G (1 + f) = c (2 * f) - 48 := by
  unfold tkG
  have e0 : ¬ 1 + f = 0 := by omega
  have e1 : 1 + f ≤ 1 + n := by omega
  rw [if_neg e0, if_pos e1, show 1 + f - 1 = f by omega]
theorem tkG_fo {c : Nat → Nat} {n : Nat} {G : Nat → Nat} {f : Nat} (h : ¬ f ≤ n) (h8 : f < 8) : tkG c n G (1 + f) = G (1 + f) := by
  unfold tkG
  have e0 : ¬ 1 + f = 0 := by omega
  have e1 : ¬ 1 + f ≤ 1 + n := by omega
  have e2 : ¬ (9 ≤ 1 + f ∧ 1 + f < 9 + n) := by omega
  have e3 : ¬ (1 + f = 16 ∨ 1 + f = 17) := by omega
  rw [if_neg e0, if_neg e1, if_neg e2, if_neg e3]
theorem tkG_b {c : Nat → Nat} {n : Nat} {G : Nat → Nat} {b : Nat} (hn : n ≤ 7) (h : b < n) : tkG c n G (9 + b) = if c (2 * b + 1) = 117 then 1 else 0 := by
  unfold tkG
  have e0 : ¬ 9 + b = 0 := by omega
  have e1 : ¬ 9 + b ≤ 1 + n := by omega
  have e2 : 9 ≤ 9 + b ∧ 9 + b < 9 + n := by omega
  rw [if_neg e0, if_neg e1, if_pos e2, show 9 + b - 9 = b by omega]
theorem tkG_o {c : Nat → Nat} {n : Nat} {G : Nat → Nat} {i : Nat} (e0 : ¬ i = 0) (e1 : ¬ i ≤ 1 + n) (e2 : ¬ (9 ≤ i ∧ i < 9 + n)) (e3 : ¬ (i = 16 ∨ i = 17)) : tkG c n G i = G i := by
  unfold tkG
  rw [if_neg e0, if_neg e1, if_neg e2, if_neg e3]
theorem lq_tk46 {M0 : Mem} {t n0 : Nat} {c : Nat → Nat} {K : Int32 → Mem → Prop} (hn : n0 ≤ 7) (htn : t = 2 * n0 + 1) (h10 : M0 1 0 = nI n0) (h0 : M0 21 0 = nI t) (hc : ∀ i, i < t → c i < 65536 ∧ M0 22 i = nI (c i)) (hal : ∀ i, i < t → alC c i)
    (h : ∀ M : Mem, (∀ a, a ≠ 2 → M a = M0 a) → (∀ f, f < 8 → M 2 f = if f ≤ n0 then nI (c (2 * f) - 48) else M0 2 f) → K (nI (n0 + 1)) M) :
    ∀ (n j : Nat) (M : Mem), j ≤ n0 + 1 → n0 + 2 ≤ n + j → (∀ a, a ≠ 2 → M a = M0 a) → (∀ f, f < 8 → M 2 f = if f < j then nI (c (2 * f) - 48) else M0 2 f) → w_X6_takeStrip_46 n (nI j) M K := by
  intro n
  induction n with
  | zero => intro j M h1 h2; omega
  | succ n ih =>
    intro j M h1 h2 hM hf
    unfold w_X6_takeStrip_46
    rw [hM 1 (by decide), h10]
    refine ⟨fun z => ?_, fun z => ?_⟩
    · rw [nI_ltI (by omega) (by omega)] at z
      have e : j = n0 + 1 := by omega
      subst e
      refine h M hM (fun f hf8 => ?_)
      rw [hf f hf8]
      by_cases q : f ≤ n0
      · rw [if_pos q, if_pos (by omega)]
      · rw [if_neg q, if_neg (by omega)]
    · rw [nI_ltI (by omega) (by omega)] at z
      rw [pk_mul]
      refine pw_signAt (t := t) (c := c) (by omega) (by rw [hM 21 (by decide)]; exact h0) (fun i hi => by rw [hM 22 (by decide)]; exact hc i hi) (by omega) ?_
      have ha := (hal (2 * j) (by omega)).2.1 (by omega)
      rw [pk_sub (by omega)]
      unfold w_X4_putLength
      refine ⟨fun z => absurd z (nI_neg (by omega)), fun _ => ⟨fun z => ?_, fun _ => ⟨vp_in_nI (by omega) (by decide), ?_⟩⟩⟩
      · rw [nI_leI (by decide) (by omega)] at z; omega
      rintro _ rfl _ rfl
      rw [nI_clamp (by omega), nI_add]
      refine ih (j + 1) _ (by omega) (by omega) (fun a ha => by rw [um_n ha]; exact hM a ha) (fun f hf8 => ?_)
      rw [um_s, upd_a]
      by_cases q : f = j
      · subst q; rw [if_pos rfl, if_pos (by omega)]
      · rw [if_neg q, hf f hf8]
        by_cases q2 : f < j
        · rw [if_pos q2, if_pos (by omega)]
        · rw [if_neg q2, if_neg (by omega)]
theorem lq_tk86 {M0 : Mem} {t n0 : Nat} {c : Nat → Nat} {K : Int32 → Mem → Prop} (hn : n0 ≤ 7) (htn : t = 2 * n0 + 1) (h10 : M0 1 0 = nI n0) (h0 : M0 21 0 = nI t) (hc : ∀ i, i < t → c i < 65536 ∧ M0 22 i = nI (c i))
    (h : ∀ M : Mem, (∀ a, a ≠ 1 → M a = M0 a) → (∀ s, s ≠ 1 → M 1 s = M0 1 s) → (∃ u, M 1 1 = nI u ∧ u < 128 ∧ ∀ i, i < 7 → u.testBit i = decide (i < n0 ∧ c (2 * i + 1) = 117)) → K (nI n0) M) :
    ∀ (n j : Nat) (M : Mem), j ≤ n0 → n0 + 1 ≤ n + j → (∀ a, a ≠ 1 → M a = M0 a) → (∀ s, s ≠ 1 → M 1 s = M0 1 s) → (∃ u, M 1 1 = nI u ∧ u < 128 ∧ ∀ i, i < 7 → u.testBit i = decide (i < j ∧ c (2 * i + 1) = 117)) → w_X6_takeStrip_86 n (nI j) M K := by
  intro n
  induction n with
  | zero => intro j M h1 h2; omega
  | succ n ih =>
    intro j M h1 h2 hM hs hu
    unfold w_X6_takeStrip_86
    rw [hs 0 (by decide), h10]
    refine ⟨fun z => ?_, fun z => ?_⟩
    · rw [nI_leI (by omega) (by omega)] at z
      have e : j = n0 := by omega
      subst e
      exact h M hM hs hu
    · rw [nI_leI (by omega) (by omega)] at z
      obtain ⟨u, hu1, hu2, hu3⟩ := hu
      rw [pk_mul, nI_add]
      refine pw_signAt (t := t) (c := c) (by omega) (by rw [hM 21 (by decide)]; exact h0) (fun i hi => by rw [hM 22 (by decide)]; exact hc i hi) (by omega) ?_
      have hb := (hc (2 * j + 1) (by omega)).1
      have step : ∀ u', u' < 128 → (∀ i, i < 7 → u'.testBit i = decide (i < j + 1 ∧ c (2 * i + 1) = 117)) → ∀ y : Int32, y = nI j + nI 1 → w_X6_takeStrip_86 n y (um M 1 (upd (M 1) 1 (nI u'))) K := by
        rintro u' hu' hb' _ rfl
        rw [nI_add]
        exact ih (j + 1) _ (by omega) (by omega) (fun a ha => by rw [um_n ha]; exact hM a ha) (fun s hs1 => by rw [um_s, upd_n hs1]; exact hs s hs1) ⟨u', by rw [um_s, upd_s], hu', hb'⟩
      refine ⟨fun e => ?_, fun e => ?_⟩
      · have e : c (2 * j + 1) ≠ 117 := fun y => e (by rw [y])
        unfold w_X4_putUp
        rw [hu1]
        refine ⟨fun _ => ?_, fun y => absurd rfl y⟩
        rintro _ rfl
        rw [bit_clr u hu2 j (by omega)]
        refine step _ (bit_cl_lt u hu2 j (by omega)) (fun i hi => ?_)
        rw [bit_cl_t u hu2 j (by omega) i hi, hu3 i hi]
        by_cases q : i = j
        · subst q; simp [e]
        · have : (i < j + 1) = (i < j) := by apply propext; omega
          simp [q, this]
      · have e : c (2 * j + 1) = 117 := nI_inj (by omega) (by decide) e
        unfold w_X4_putUp
        rw [hu1]
        refine ⟨fun y => absurd y (by decide), fun _ => ?_⟩
        rintro _ rfl
        rw [bit_set u hu2 j (by omega)]
        refine step _ (bit_or_lt u hu2 j (by omega)) (fun i hi => ?_)
        rw [bit_or_t u hu2 j (by omega) i hi, hu3 i hi]
        by_cases q : i = j
        · subst q; simp [e]
        · have : (i < j + 1) = (i < j) := by apply propext; omega
          simp [q, this]
def tkR (c : Nat → Nat) (row : Nat → Int32) (j i : Nat) : Int32 := if 1 ≤ i ∧ i ≤ 8 ∧ 2 * (i - 1) < j then nI (c (2 * (i - 1)) - 48) else if 9 ≤ i ∧ i ≤ 15 ∧ 2 * (i - 9) + 1 < j then nI (if c (2 * (i - 9) + 1) = 117 then 1 else 0) else row i
theorem lq_tk36 {M0 : Mem} {t n0 : Nat} {c : Nat → Nat} {K : Int32 → Mem → Prop} (hn : n0 ≤ 7) (htn : t = 2 * n0 + 1) (h0 : M0 0 6 = nI t) (hc : ∀ i, i < t → c i < 65536 ∧ M0 4 i = nI (c i)) (hal : ∀ i, i < t → alC c i)
    (h : ∀ M : Mem, (∀ a, a ≠ 1 → M a = M0 a) → (∀ i, i < 23 → M 1 i = tkR c (M0 1) t i) → K (nI t) M) :
    ∀ (n j : Nat) (M : Mem), j ≤ t → t + 1 ≤ n + j → (∀ a, a ≠ 1 → M a = M0 a) → (∀ i, i < 23 → M 1 i = tkR c (M0 1) j i) → w_X7_takeStrip_36 n (nI j) M K := by
  intro n
  induction n with
  | zero => intro j M h1 h2; omega
  | succ n ih =>
    intro j M h1 h2 hM hr
    unfold w_X7_takeStrip_36
    rw [hM 0 (by decide), hM 4 (by decide), h0]
    refine ⟨fun z => ?_, fun z => ?_⟩
    · rw [nI_leI (by omega) (by omega)] at z
      have e : j = t := by omega
      subst e
      exact h M hM hr
    · rw [nI_leI (by omega) (by omega)] at z
      have hj : j < t := by omega
      have hb := (hc j hj).1
      rw [nI_clamp (by omega), (hc j hj).2, pk_rem (by omega) (by decide) (by decide), pk_div (by omega) (by decide) (by decide), nI_add, nI_add, nI_add, nI_clamp (by omega), nI_clamp (by omega)]
      have odd : j % 2 ≠ 0 → ∀ e : Nat, e = (if c j = 117 then 1 else 0) → ∀ y : Int32, y = nI (j + 1) → w_X7_takeStrip_36 n y (um M 1 (upd (M 1) (9 + j / 2) (nI e))) K := by
        rintro o e he _ rfl
        refine ih (j + 1) _ (by omega) (by omega) (fun a ha => by rw [um_n ha]; exact hM a ha) (fun i hi => ?_)
        rw [um_s, upd_a]
        by_cases q : i = 9 + j / 2
        · rw [if_pos q]
          unfold tkR
          rw [if_neg (by omega), if_pos (by omega), show 2 * (i - 9) + 1 = j by omega, he]
        · rw [if_neg q, hr i hi]
          unfold tkR
          by_cases q1 : 1 ≤ i ∧ i ≤ 8 ∧ 2 * (i - 1) < j
          · rw [if_pos q1, if_pos (by omega)]
          · have r1 : ¬ (1 ≤ i ∧ i ≤ 8 ∧ 2 * (i - 1) < j + 1) := by omega
            rw [if_neg q1, if_neg r1]
            by_cases q2 : 9 ≤ i ∧ i ≤ 15 ∧ 2 * (i - 9) + 1 < j
            · have r2 : 9 ≤ i ∧ i ≤ 15 ∧ 2 * (i - 9) + 1 < j + 1 := by omega
              rw [if_pos q2, if_pos r2]
            · have r2 : ¬ (9 ≤ i ∧ i ≤ 15 ∧ 2 * (i - 9) + 1 < j + 1) := by omega
              rw [if_neg q2, if_neg r2]
      refine ⟨fun o => ⟨vp_in_nI (by omega) (by decide), fun e => ⟨vp_in_nI (by omega) (by decide), ?_⟩, fun e => ⟨vp_in_nI (by omega) (by decide), ?_⟩⟩, fun o => ⟨vp_in_nI (by omega) (by decide), vp_in_nI (by omega) (by decide), ?_⟩⟩
      · rintro _ rfl
        exact odd (fun y => o (by rw [y]; rfl)) 0 (by rw [if_neg (fun y => e (by rw [y]))])
      · rintro _ rfl
        exact odd (fun y => o (by rw [y]; rfl)) 1 (by rw [if_pos (nI_inj (by omega) (by decide) e)])
      · have o : j % 2 = 0 := (nI_z (by omega)).mp o
        have ha := (hal j hj).2.1 o
        rintro _ rfl _ rfl
        rw [pk_sub (by omega)]
        refine ih (j + 1) _ (by omega) (by omega) (fun a ha => by rw [um_n ha]; exact hM a ha) (fun i hi => ?_)
        rw [um_s, upd_a]
        by_cases q : i = 1 + j / 2
        · rw [if_pos q]
          unfold tkR
          rw [if_pos (by omega), show 2 * (i - 1) = j by omega]
        · rw [if_neg q, hr i hi]
          unfold tkR
          by_cases q1 : 1 ≤ i ∧ i ≤ 8 ∧ 2 * (i - 1) < j
          · rw [if_pos q1, if_pos (by omega)]
          · have r1 : ¬ (1 ≤ i ∧ i ≤ 8 ∧ 2 * (i - 1) < j + 1) := by omega
            rw [if_neg q1, if_neg r1]
            by_cases q2 : 9 ≤ i ∧ i ≤ 15 ∧ 2 * (i - 9) + 1 < j
            · have r2 : 9 ≤ i ∧ i ≤ 15 ∧ 2 * (i - 9) + 1 < j + 1 := by omega
              rw [if_pos q2, if_pos r2]
            · have r2 : ¬ (9 ≤ i ∧ i ≤ 15 ∧ 2 * (i - 9) + 1 < j + 1) := by omega
              rw [if_neg q2, if_neg r2]
theorem pr_takeStrip {MC MM : Mem} (h : REL MC MM) : w_X6_takeStrip MC (EQA MM w_X7_takeStrip) := by
  obtain ⟨⟨G, hV, hC, hR⟩, ⟨k, H, hH, hM, hHV⟩, hK, ⟨t, t1, t2, t3, t4⟩, hP⟩ := id h
  obtain ⟨c, hc5, hc7⟩ : ∃ c : Nat → Nat, (∀ i, i < t → c i < 65536 ∧ MC 22 i = nI (c i)) ∧ ∀ i, i < t → c i < 65536 ∧ MM 4 i = nI (c i) := by
    have e : ∀ i, ∃ x : Nat, i < t → x < 65536 ∧ MC 22 i = nI x ∧ MM 4 i = nI x := by
      intro i
      by_cases q : i < t
      · obtain ⟨x, hx⟩ := t4 i q
        exact ⟨x, fun _ => hx⟩
      · exact ⟨0, fun y => absurd y q⟩
    refine ⟨fun i => Classical.choose (e i), fun i hi => ?_, fun i hi => ?_⟩
    · have := Classical.choose_spec (e i) hi
      exact ⟨this.1, this.2.1⟩
    · have := Classical.choose_spec (e i) hi
      exact ⟨this.1, this.2.2⟩
  unfold w_X6_takeStrip
  refine pw_fault5 t1 t2 hc5 (fun i hi no hb hl => ⟨fun z => ?_, fun _ => ?_⟩) (fun ok => ⟨fun _ => ?_, fun z => absurd rfl z⟩)
  · have : nI i < 0 := by rw [z]; decide
    exact absurd this (nI_neg (by omega))
  · show w_X7_takeStrip MM _
    unfold w_X7_takeStrip
    refine pw_fault7 t1 t3 hc7 (fun i' hi' _ hb' hl' => ⟨fun z => ?_, fun _ => ⟨?_, h⟩⟩) (fun ok => absurd ok no)
    · have : nI i' < 0 := by rw [z]; decide
      exact absurd this (nI_neg (by omega))
    · rcases Nat.lt_trichotomy i i' with q | q | q
      · exact absurd (hb' i q) (hl (by omega))
      · rw [q]
      · exact absurd (hb i' q) (hl' (by omega))
  · obtain ⟨hal, t3', todd⟩ := id ok
    have h15 : t ≤ 15 := by
      rcases Nat.lt_or_ge 15 t with q | q
      · have := (hal 15 q).1
        omega
      · exact q
    obtain ⟨n0, hn0⟩ : ∃ n0, t = 2 * n0 + 1 := ⟨t / 2, by omega⟩
    have hn7 : n0 ≤ 7 := by omega
    have hn1 : 1 ≤ n0 := by omega
    refine pw_record hC hV.2.2.2.2.1 hH (fun M1 hH1 f1 => ?_)
    have hC1 : CS M1 1 G := hC.kept (f1 _ (by decide)) (f1 _ (by decide)) (f1 _ (by decide))
    unfold w_X5_pairs
    rw [f1 21 (by decide), t2, pk_div (by omega) (by decide) (by decide), show t / 2 = n0 by omega]
    unfold w_X4_beginStrip
    rintro _ rfl _ rfl
    have ea : (if nI 7 < nI n0 then nI 7 else nI n0) = nI n0 := by rw [if_neg]; rw [nI_ltI (by decide) (by omega)]; omega
    have eb : (if nI 1 < nI n0 then nI n0 else nI 1) = nI n0 := by
      by_cases q : nI 1 < nI n0
      · rw [if_pos q]
      · rw [if_neg q]
        rw [nI_ltI (by decide) (by omega)] at q
        rw [show n0 = 1 by omega]
    rw [ea, eb]
    rintro M2 hM2 M3 hM3 M4 hM4 M5 hM5
    have k5 : ∀ a, a ≠ 1 → M5 a = M1 a := fun a ha => by rw [hM5, um_n ha, hM4, um_n ha, hM3, um_n ha, hM2, um_n ha]
    have e50 : M5 1 0 = nI n0 := by rw [hM5, um_s, upd_n (by decide), hM4, um_s, upd_n (by decide), hM3, um_s, upd_n (by decide), hM2, um_s, upd_s]
    have e51 : M5 1 1 = nI 0 := by rw [hM5, um_s, upd_n (by decide), hM4, um_s, upd_n (by decide), hM3, um_s, upd_s]
    have e52 : M5 1 2 = nI 0 := by rw [hM5, um_s, upd_n (by decide), hM4, um_s, upd_s]
    have e53 : M5 1 3 = nI 0 := by rw [hM5, um_s, upd_s]
    have e54 : M5 1 4 = nI (G 22) := by rw [hM5, um_s, upd_n (by decide), hM4, um_s, upd_n (by decide), hM3, um_s, upd_n (by decide), hM2, um_s, upd_n (by decide)]; exact hC1.2.2.2.2.1
    have hc5' : ∀ i, i < t → c i < 65536 ∧ M5 22 i = nI (c i) := fun i hi => by rw [k5 22 (by decide), f1 22 (by decide)]; exact hc5 i hi
    have e521 : M5 21 0 = nI t := by rw [k5 21 (by decide), f1 21 (by decide)]; exact t2
    clear hM2 hM3 hM4 hM5
    refine lq_tk46 (M0 := M5) (t := t) (n0 := n0) (c := c) hn7 hn0 e50 e521 hc5' hal (fun M6 g6 g62 => ?_) FU 0 M5 (Nat.zero_le _) (by show n0 + 2 ≤ 1000 + 0; omega) (fun _ _ => rfl) (fun f hf => by rw [if_neg (by omega)])
    refine lq_tk86 (M0 := M6) (t := t) (n0 := n0) (c := c) hn7 hn0 (by rw [g6 1 (by decide)]; exact e50) (by rw [g6 21 (by decide)]; exact e521) (fun i hi => by rw [g6 22 (by decide)]; exact hc5' i hi) (fun M7 g7 g71 g72 => ?_) FU 0 M6 (Nat.zero_le _) (by show n0 + 1 ≤ 1000 + 0; omega) (fun _ _ => rfl) (fun _ _ => rfl) ⟨0, by rw [g6 1 (by decide)]; exact e51, by decide, fun i hi => by simp⟩
    have k7 : ∀ a, a ≠ 1 → a ≠ 2 → M7 a = M1 a := fun a a1 a2 => by rw [g7 a a1, g6 a a2, k5 a a1]
    have s7 : ∀ s, s ≠ 1 → M7 1 s = M5 1 s := fun s hs => by rw [g71 s hs, g6 1 (by decide)]
    have hV7 : VG (tkG c n0 G) := by
      obtain ⟨v1, v2, v3, v4, v5, v6, v7, v8, v9⟩ := hV
      have e0 : tkG c n0 G 0 = n0 := rfl
      have ee : ∀ j, 18 ≤ j → tkG c n0 G j = G j := fun j hj => by
        unfold tkG
        rw [if_neg (by omega), if_neg (by omega), if_neg (by omega), if_neg (by omega)]
      have e16 : tkG c n0 G 16 = 0 := by
        unfold tkG
        rw [if_neg (by omega), if_neg (by omega), if_neg (by omega), if_pos (by omega)]
      have e17 : tkG c n0 G 17 = 0 := by
        unfold tkG
        rw [if_neg (by omega), if_neg (by omega), if_neg (by omega), if_pos (by omega)]
      unfold VG
      rw [e0, e16, e17, ee 18 (by decide), ee 19 (by decide), ee 20 (by decide), ee 21 (by decide)]
      refine ⟨⟨hn1, hn7⟩, fun f hf => ?_, fun b hb => ?_, Nat.pow_pos (by decide), by decide, v6, v7, v8, v9⟩
      · have ha := (hal (2 * f) (by omega)).2.1 (by omega)
        have e : tkG c n0 G (1 + f) = c (2 * f) - 48 := by
          unfold tkG
          rw [if_neg (by omega), if_pos (by omega), show 1 + f - 1 = f by omega]
        rw [e]; omega
      · have e : tkG c n0 G (9 + b) = if c (2 * b + 1) = 117 then 1 else 0 := by
          unfold tkG
          rw [if_neg (by omega), if_neg (by omega), if_pos (by omega), show 9 + b - 9 = b by omega]
        rw [e]; split <;> decide
    have hC7 : CS M7 1 (tkG c n0 G) := by
      obtain ⟨u, hu1, hu2, hu3⟩ := g72
      refine ⟨by rw [s7 0 (by decide)]; exact e50, ⟨u, hu1, hu2, fun b hb => ?_⟩, ?_, ?_, ?_, fun f hf => ?_, fun s hs => ?_⟩
      · rw [hu3 b hb]
        show _ = decide (b < n0 ∧ tkG c n0 G (9 + b) = 1)
        by_cases q : b < n0
        · have e : tkG c n0 G (9 + b) = if c (2 * b + 1) = 117 then 1 else 0 := by
            unfold tkG
            rw [if_neg (by omega), if_neg (by omega), if_pos (by omega), show 9 + b - 9 = b by omega]
          rw [e]
          by_cases q2 : c (2 * b + 1) = 117 <;> simp [q, q2]
        · simp [q]
      · rw [s7 2 (by decide), e52]
        unfold tkG
        rw [if_neg (by omega), if_neg (by omega), if_neg (by omega), if_pos (by omega)]
      · rw [s7 3 (by decide), e53]
        unfold tkG
        rw [if_neg (by omega), if_neg (by omega), if_neg (by omega), if_pos (by omega)]
      · rw [s7 4 (by decide), e54]
        unfold tkG
        rw [if_neg (by omega), if_neg (by omega), if_neg (by omega), if_neg (by omega)]
      · rw [show 1 + 1 = 2 from rfl, g7 2 (by decide), g62 f hf]
        by_cases q : f ≤ n0
        · rw [if_pos q, tkG_f q]
        · rw [if_neg q, tkG_fo q hf, k5 2 (by decide)]
          exact hC1.2.2.2.2.2.1 f hf
      · rw [show 1 + 2 = 3 from rfl, k7 3 (by decide) (by decide)]
        unfold tkG
        rw [if_neg (by omega), if_neg (by omega), if_neg (by omega), if_neg (by omega)]
        exact hC1.2.2.2.2.2.2 s hs
    rw [s7 0 (by decide), e50]
    show w_X7_takeStrip MM _
    unfold w_X7_takeStrip
    refine pw_fault7 t1 t3 hc7 (fun _ _ no _ _ => absurd ok no) (fun _ => ⟨fun _ => ?_, fun z => absurd rfl z⟩)
    refine pw_know hR hM (fun M8 hM8 g8 g80 => ?_)
    rintro M9 hM9
    have k9 : ∀ a, a ≠ 1 → M9 a = M8 a := fun a ha => by rw [hM9, um_n ha]
    have e90 : M9 1 = upd (MM 1) 0 (nI n0) := by
      rw [hM9, um_s, g8 1 (by decide) (by decide), g80 6 (by decide), t3, pk_div (by omega) (by decide) (by decide), show t / 2 = n0 by omega]
    refine lq_tk36 (M0 := M9) (t := t) (n0 := n0) (c := c) hn7 hn0 (by rw [k9 0 (by decide), g80 6 (by decide)]; exact t3) (fun i hi => by rw [k9 4 (by decide), g8 4 (by decide) (by decide)]; exact hc7 i hi) hal (fun M10 g10 g101 => ?_) FU 0 M9 (Nat.zero_le _) (by show t + 1 ≤ 1000 + 0; omega) (fun _ _ => rfl) (fun i hi => by unfold tkR; rw [if_neg (by omega), if_neg (by omega)])
    rintro M11 hM11 M12 hM12
    have k12 : ∀ a, a ≠ 1 → M12 a = M8 a := fun a ha => by rw [hM12, um_n ha, hM11, um_n ha, g10 a ha, k9 a ha]
    have hR12 : RG (M12 1) (tkG c n0 G) := by
      intro i hi
      rw [hM12, um_s, upd_a]
      by_cases q17 : i = 17
      · rw [if_pos q17]
        unfold tkG
        rw [if_neg (by omega), if_neg (by omega), if_neg (by omega), if_pos (by omega)]
      rw [if_neg q17, hM11, um_s, upd_a]
      by_cases q16 : i = 16
      · rw [if_pos q16]
        unfold tkG
        rw [if_neg (by omega), if_neg (by omega), if_neg (by omega), if_pos (by omega)]
      rw [if_neg q16, g101 i hi]
      unfold tkR
      by_cases q1 : 1 ≤ i ∧ i ≤ 8 ∧ 2 * (i - 1) < t
      · rw [if_pos q1]
        have := tkG_f (c := c) (n := n0) (G := G) (f := i - 1) (by omega)
        rw [show 1 + (i - 1) = i by omega] at this
        rw [this]
      · rw [if_neg q1]
        by_cases q2 : 9 ≤ i ∧ i ≤ 15 ∧ 2 * (i - 9) + 1 < t
        · rw [if_pos q2]
          have := tkG_b (c := c) (n := n0) (G := G) (b := i - 9) hn7 (by omega)
          rw [show 9 + (i - 9) = i by omega] at this
          rw [this]
        · rw [if_neg q2, e90, upd_a]
          by_cases q0 : i = 0
          · rw [if_pos q0, q0]
            rfl
          · rw [if_neg q0, tkG_o q0 (by omega) (by omega) (by omega)]
            exact hR i hi
    rw [hR12 0 (by decide)]
    refine ⟨rfl, h.act hV7 hC7 hR12 (hH1.kept (fun a a1 a2 => k7 a (by omega) (by omega))) (hM8.kept (by rw [k12 0 (by decide)]) (k12 2 (by decide))) (push_ok hHV hM.1 hV) (fun a ha => ?_) ?_ ?_ ?_⟩
    · rw [k7 a (by omega) (by omega)]; exact f1 a (by omega)
    · rw [k12 3 (by decide)]; exact g8 3 (by decide) (by decide)
    · rw [k12 4 (by decide)]; exact g8 4 (by decide) (by decide)
    · intro j hj; rw [k12 0 (by decide)]; exact g80 j hj
