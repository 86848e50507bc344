/-! the start: the object is new -/
def M00 : Mem := fun _ _ => 0
def σ6 : Nat → KD := fun _ => .inr (6, [some none, some none, none, some none, some none, some none, some none])
def MC0 : Mem := mct_X6_0 M00
theorem σC_new : ∀ x, x < 46 → sct_X6_0 σ6 x = σC x := fun x hx => match x, hx with
  | 0, _ => rfl
  | 1, _ => rfl
  | 2, _ => rfl
  | 3, _ => rfl
  | 4, _ => rfl
  | 5, _ => rfl
  | 6, _ => rfl
  | 7, _ => rfl
  | 8, _ => rfl
  | 9, _ => rfl
  | 10, _ => rfl
  | 11, _ => rfl
  | 12, _ => rfl
  | 13, _ => rfl
  | 14, _ => rfl
  | 15, _ => rfl
  | 16, _ => rfl
  | 17, _ => rfl
  | 18, _ => rfl
  | 19, _ => rfl
  | 20, _ => rfl
  | 21, _ => rfl
  | 22, _ => rfl
  | 23, _ => rfl
  | 24, _ => rfl
  | 25, _ => rfl
  | 26, _ => rfl
  | 27, _ => rfl
  | 28, _ => rfl
  | 29, _ => rfl
  | 30, _ => rfl
  | 31, _ => rfl
  | 32, _ => rfl
  | 33, _ => rfl
  | 34, _ => rfl
  | 35, _ => rfl
  | 36, _ => rfl
  | 37, _ => rfl
  | 38, _ => rfl
  | 39, _ => rfl
  | 40, _ => rfl
  | 41, _ => rfl
  | 42, _ => rfl
  | 43, _ => rfl
  | 44, _ => rfl
  | 45, _ => rfl
  | n + 46, h => absurd h (Nat.not_lt.mpr (Nat.le_add_left _ _))
def G00 : Nat → Nat := fun i => if i = 0 then 1 else if i = 1 then 5 else if i = 2 then 5 else if i = 9 then 1 else if i = 18 then 6 else if i = 19 then 1 else if i = 20 then 1 else if i = 21 then 3 else 0
theorem G00_VG : VG G00 := by
  refine ⟨by decide, ?_, ?_, by decide, by decide, by decide, by decide, by decide, by decide⟩
  · intro f hf
    have : f = 0 ∨ f = 1 := by
      have e : G00 0 = 1 := rfl
      omega
    rcases this with rfl | rfl <;> decide
  · intro b hb
    have : b = 0 := by
      have e : G00 0 = 1 := rfl
      omega
    subst this
    decide
theorem MC0_q : ∀ j, j < 4 → MC0 8 j = nI (9 + 3 * j) := by decide +kernel
theorem MC0_len : ∀ f, f < 8 → MC0 2 f = nI (G00 (1 + f)) := by decide +kernel
theorem MC0_set : ∀ k, k < 4 → MC0 3 k = nI (G00 (18 + k)) := by decide +kernel
theorem MC0_obj : MC0 1 0 = nI 1 ∧ MC0 1 1 = nI 1 ∧ MC0 1 2 = nI 0 ∧ MC0 1 3 = nI 0 ∧ MC0 1 4 = nI 0 ∧ MC0 7 0 = nI 0 ∧ MC0 0 2 = nI 0 ∧ MC0 21 0 = nI 0 ∧ MC0 31 2 = nI 0 := by decide +kernel
theorem one_bit : ∀ b, b < 7 → (1 : Nat).testBit b = decide (b < G00 0 ∧ G00 (9 + b) = 1) := by decide +kernel
theorem isR_q : ∀ j, j < 4 → isR (9 + 3 * j) := by decide
theorem ST0 : ST MC0 G00 none 0 (fun _ => 0) := by
  obtain ⟨a0, a1, a2, a3, a4, a7, ak, at_, ap⟩ := MC0_obj
  refine ⟨G00_VG, ⟨a0, ⟨1, a1, by decide, one_bit⟩, a2, a3, a4, MC0_len, MC0_set⟩, ⟨0, fun _ => G00, ⟨by decide, a7, fun j => 9 + 3 * j, fun j hj => ⟨isR_q j hj, MC0_q j hj⟩, fun i j _ _ e => by have e : 9 + 3 * i = 9 + 3 * j := e; omega, fun j hj => by omega⟩, fun j hj => by omega⟩, (fun K hK => by cases hK), ⟨by decide, at_, fun i hi => by omega⟩, Or.inl ap⟩
theorem cW_congr {E : EN} {σ σ' : Nat → KD} {N : Nat} {M : Mem} (h : ∀ x, x < N → σ x = σ' x) : cW E σ N M = cW E σ' N M := by
  unfold cW
  refine List.map_congr_left (fun k hk => ?_)
  rw [h k (List.mem_range.mp hk)]
