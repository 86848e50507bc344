/-! numbers and memories -/
abbrev Mem : Type := Nat → Nat → Int32
theorem um_s (M : Mem) (a : Nat) (f : Nat → Int32) : um M a f a = f := if_pos rfl
theorem um_n {M : Mem} {a b : Nat} {f : Nat → Int32} (h : b ≠ a) : um M a f b = M b := if_neg h
theorem upd_s (f : Nat → Int32) (k : Nat) (x : Int32) : upd f k x k = x := if_pos rfl
theorem upd_n {f : Nat → Int32} {k j : Nat} {x : Int32} (h : j ≠ k) : upd f k x j = f j := if_neg h
theorem um_a (M : Mem) (a : Nat) (f : Nat → Int32) (b : Nat) : um M a f b = if b = a then f else M b := rfl
theorem upd_a (f : Nat → Int32) (k : Nat) (x : Int32) (j : Nat) : upd f k x j = if j = k then x else f j := rfl
theorem nI_z {j : Nat} (h : j < 2 ^ 31) : nI j = 0 ↔ j = 0 := by
  rw [← nI_0]; exact nI_eq h (by decide)
theorem nI_nz {j : Nat} (h : j < 2 ^ 31) : ¬ nI j = 0 ↔ j ≠ 0 := not_congr (nI_z h)
theorem nI_neg {j : Nat} (h : j < 2 ^ 31) : ¬ nI j < 0 := nI_pos h
/-- an int is below zero, or a small number -/
theorem nI_cases (a : Int32) : a < 0 ∨ ∃ j, j < 2 ^ 31 ∧ a = nI j := by
  by_cases h : a < 0
  · exact Or.inl h
  · exact Or.inr (nI_of h)
theorem bit_get : ∀ u, u < 128 → ∀ b, b < 8 → (nI u >>> (nI b &&& 31)) &&& nI 1 = if u.testBit b then nI 1 else nI 0 := by decide +kernel
theorem bit_set : ∀ u, u < 128 → ∀ b, b < 7 → nI u ||| (nI 1 <<< (nI b &&& 31)) = nI (u ||| 2 ^ b) := by decide +kernel
theorem bit_clr : ∀ u, u < 128 → ∀ b, b < 7 → nI u &&& ((nI 1 <<< (nI b &&& 31)) ^^^ (-1)) = nI (if u.testBit b then u - 2 ^ b else u) := by decide +kernel
theorem bit_sub : ∀ u, u < 128 → ∀ b, b < 7 → u.testBit b = true → nI u - (nI 1 <<< (nI b &&& 31)) = nI (u - 2 ^ b) := by decide +kernel
theorem bit_all : ∀ n, n < 8 → (nI 1 <<< (nI n &&& 31)) - nI 1 = nI (2 ^ n - 1) := by decide +kernel
theorem bit_or_lt : ∀ u, u < 128 → ∀ b, b < 7 → u ||| 2 ^ b < 128 := by decide +kernel
theorem bit_sh : ∀ b, b < 7 → nI 1 <<< (nI b &&& 31) = nI (2 ^ b) := by decide +kernel
def pcn (u : Nat) : Nat := (u / 1 % 2) + (u / 2 % 2) + (u / 4 % 2) + (u / 8 % 2) + (u / 16 % 2) + (u / 32 % 2) + (u / 64 % 2)
def pck (u j : Nat) : Nat := match j with
  | 0 => 0
  | j + 1 => pck u j + (if u.testBit j then 1 else 0)
theorem pck_7 : ∀ u, u < 128 → pck u 7 = pcn u := by decide +kernel
theorem pcn_le : ∀ u, u < 128 → pcn u ≤ 7 := by decide +kernel
def bcE (a : Int32) : Int32 :=
  (fun y1 => (fun y2 => (fun y3 => (fun y4 => (fun y5 => (fun y6 => (fun y7 => y7 &&& nI 63) (y6 + (y6.toUInt32 >>> ((nI 16).toUInt32 &&& Int32.toUInt32 31)).toInt32)) (y5 + (y5.toUInt32 >>> ((nI 8).toUInt32 &&& Int32.toUInt32 31)).toInt32)) ((y4 + (y4.toUInt32 >>> ((nI 4).toUInt32 &&& Int32.toUInt32 31)).toInt32) &&& nI 252645135)) ((y2 &&& nI 858993459) + y3)) ((y2.toUInt32 >>> ((nI 2).toUInt32 &&& Int32.toUInt32 31)).toInt32 &&& nI 858993459)) (a - y1)) ((a.toUInt32 >>> ((nI 1).toUInt32 &&& Int32.toUInt32 31)).toInt32 &&& nI 1431655765)
theorem bc_dec : ∀ u, u < 128 → bcE (nI u) = nI (pcn u) := by decide +kernel
theorem pw_bc {u : Nat} {M : Mem} {Q : Int32 → Mem → Prop} (hu : u < 128) (h : Q (nI (pcn u)) M) : w_J6_bitCount_0f7a4 (nI u) M Q := by
  unfold w_J6_bitCount_0f7a4
  repeat rintro _ rfl
  have e := bc_dec u hu
  show Q (bcE (nI u)) M
  rw [e]
  exact h
/-- a strip as numbers, in the places of the reference's row: 0 bends, 1.. lengths, 9.. up, 16 done, 17 laid, 18.. settings, 22 bendings -/
def VG (G : Nat → Nat) : Prop := (1 ≤ G 0 ∧ G 0 ≤ 7) ∧ (∀ f, f ≤ G 0 → 1 ≤ G (1 + f) ∧ G (1 + f) ≤ 9) ∧ (∀ b, b < G 0 → G (9 + b) ≤ 1) ∧ G 16 < 2 ^ G 0 ∧ G 17 ≤ 1 ∧ (1 ≤ G 18 ∧ G 18 ≤ 12) ∧ G 19 ≤ 3 ∧ G 20 ≤ 9 ∧ G 21 ≤ 9
def RG (row : Nat → Int32) (G : Nat → Nat) : Prop := ∀ i, i < 23 → row i = nI (G i)
def CS (M : Mem) (r : Nat) (G : Nat → Nat) : Prop := M r 0 = nI (G 0) ∧ (∃ u, M r 1 = nI u ∧ u < 128 ∧ ∀ b, b < 7 → u.testBit b = decide (b < G 0 ∧ G (9 + b) = 1)) ∧ M r 2 = nI (G 16) ∧ M r 3 = nI (G 17) ∧ M r 4 = nI (G 22) ∧ (∀ f, f < 8 → M (r + 1) f = nI (G (1 + f))) ∧ ∀ k, k < 4 → M (r + 2) k = nI (G (18 + k))
theorem VG.d {G : Nat → Nat} (h : VG G) : G 16 < 128 := Nat.lt_of_lt_of_le h.2.2.2.1 (Nat.pow_le_pow_right (by decide) h.1.2 : 2 ^ G 0 ≤ 2 ^ 7)
theorem CS.up {M : Mem} {r b : Nat} {G : Nat → Nat} (h : CS M r G) (hb : b < 8) : (M r 1 >>> (nI b &&& 31)) &&& nI 1 = if b < G 0 ∧ b < 7 ∧ G (9 + b) = 1 then nI 1 else nI 0 := by
  obtain ⟨-, ⟨u, e, hu, ht⟩, -⟩ := h
  rw [e, bit_get u hu b hb]
  by_cases h7 : b < 7
  · rw [ht b h7]
    by_cases c : b < G 0 ∧ G (9 + b) = 1
    · rw [if_pos (by simpa using c), if_pos ⟨c.1, h7, c.2⟩]
    · rw [if_neg (by simpa using c), if_neg (fun z => c ⟨z.1, z.2.2⟩)]
  · have e7 : b = 7 := by omega
    subst e7
    have e0 : u.testBit 7 = false := Nat.testBit_lt_two_pow (by omega)
    rw [e0, if_neg (by decide), if_neg (by omega)]
theorem CS.kept {M M' : Mem} {r : Nat} {G : Nat → Nat} (h : CS M r G) (e0 : M' r = M r) (e1 : M' (r + 1) = M (r + 1)) (e2 : M' (r + 2) = M (r + 2)) : CS M' r G := by
  unfold CS
  rw [e0, e1, e2]
  exact h
-- reads of a strip
theorem pw_lengthAt {M : Mem} {r f : Nat} {Q : Int32 → Mem → Prop} (hf : f < 8) (h : Q (M (r + 1) f) M) : w_X4_lengthAt r (nI f) M Q := by
  unfold w_X4_lengthAt
  refine ⟨fun c => absurd c (nI_neg (by omega)), fun _ => ⟨fun c => ?_, fun _ => ⟨vp_in_nI hf (by decide), ?_⟩⟩⟩
  · rw [nI_leI (by decide) (by omega)] at c
    omega
  · rw [nI_clamp (by omega)]
    exact h
theorem pw_settingAt {M : Mem} {r k : Nat} {Q : Int32 → Mem → Prop} (hk : k < 4) (h : Q (M (r + 2) k) M) : w_X4_settingAt r (nI k) M Q := by
  unfold w_X4_settingAt
  refine ⟨fun c => absurd c (nI_neg (by omega)), fun _ => ⟨fun c => ?_, fun _ => ⟨vp_in_nI hk (by decide), ?_⟩⟩⟩
  · rw [nI_leI (by decide) (by omega)] at c
    omega
  · rw [nI_clamp (by omega)]
    exact h
theorem pw_isUp {M : Mem} {r b : Nat} {G : Nat → Nat} {Q : Int32 → Mem → Prop} (hS : CS M r G) (hV : VG G) (hb : b < G 0) (h : Q (nI (if G (9 + b) = 1 then 1 else 0)) M) : w_X4_isUp r (nI b) M Q := by
  unfold w_X4_isUp
  have hb7 : b < 7 := Nat.lt_of_lt_of_le hb hV.1.2
  rw [hS.up (by omega)]
  by_cases c : G (9 + b) = 1
  · rw [if_pos ⟨hb, hb7, c⟩]
    rw [if_pos c] at h
    exact ⟨fun z => absurd rfl z, fun _ => h⟩
  · rw [if_neg (fun z => c z.2.2)]
    rw [if_neg c] at h
    exact ⟨fun _ => h, fun z => absurd z (by decide)⟩
theorem pw_isDone {M : Mem} {r b d : Nat} {Q : Int32 → Mem → Prop} (hd : M r 2 = nI d) (hd2 : d < 128) (hb : b < 8) (h : Q (nI (if d.testBit b then 1 else 0)) M) : w_X4_isDone r (nI b) M Q := by
  unfold w_X4_isDone
  rw [hd, bit_get d hd2 b hb]
  by_cases c : d.testBit b = true
  · rw [if_pos c] at h ⊢
    exact ⟨fun z => absurd rfl z, fun _ => h⟩
  · rw [if_neg c] at h ⊢
    exact ⟨fun _ => h, fun z => absurd z (by decide)⟩
theorem zb_0 : zb (nI 0) := ⟨rfl, rfl⟩
theorem zb_1 : zb (nI 1) := ⟨rfl, rfl⟩
theorem zb_le {j : Nat} (h : j ≤ 1) : zb (nI j) := by
  rcases (show j = 0 ∨ j = 1 by omega) with rfl | rfl
  · exact zb_0
  · exact zb_1
/-- which bend an int names -/
theorem pw_hasBend {M : Mem} {r n : Nat} {a : Int32} {Q : Int32 → Mem → Prop} (hn : M r 0 = nI n) (hn7 : n ≤ 7) (h0 : (∀ b, b < n → a ≠ nI b) → Q (nI 0) M) (h1 : ∀ b, b < n → a = nI b → Q (nI 1) M) : w_X4_hasBend r a M Q := by
  unfold w_X4_hasBend
  rw [hn]
  refine ⟨fun c => h0 (fun b hb e => ?_), fun c => ⟨fun c2 => h0 (fun b hb e => ?_), fun c2 => ?_⟩⟩
  · rw [e] at c; exact nI_neg (by omega) c
  · rw [e, nI_leI (by omega) (by omega)] at c2; omega
  · obtain ⟨j, hj, e⟩ := nI_of c
    rw [e, nI_leI (by omega) hj] at c2
    exact h1 j (by omega) e
theorem pw_hasFlange {M : Mem} {r n : Nat} {a : Int32} {Q : Int32 → Mem → Prop} (hn : M r 0 = nI n) (hn7 : n ≤ 7) (h0 : (∀ b, b ≤ n → a ≠ nI b) → Q (nI 0) M) (h1 : ∀ b, b ≤ n → a = nI b → Q (nI 1) M) : w_X4_hasFlange r a M Q := by
  unfold w_X4_hasFlange
  rw [hn]
  refine ⟨fun c => h0 (fun b hb e => ?_), fun c => ⟨fun c2 => h0 (fun b hb e => ?_), fun c2 => ?_⟩⟩
  · rw [e] at c; exact nI_neg (by omega) c
  · rw [e, nI_ltI (by omega) (by omega)] at c2; omega
  · obtain ⟨j, hj, e⟩ := nI_of c
    rw [e, nI_ltI (by omega) hj] at c2
    exact h1 j (by omega) e
theorem nI_inj {a b : Nat} (ha : a < 2 ^ 31) (hb : b < 2 ^ 31) (h : nI a = nI b) : a = b := (nI_eq ha hb).mp h
theorem pw_copyFrom {M : Mem} {r0 r1 : Nat} {G : Nat → Nat} {Q : Mem → Prop} (hr : r0 + 2 < r1 ∨ r1 + 2 < r0) (hS : CS M r1 G) (hz : G 17 ≤ 1) (h : ∀ M', CS M' r0 G → CS M' r1 G → (∀ a, a ≠ r0 → a ≠ r0 + 1 → a ≠ r0 + 2 → M' a = M a) → (∀ j, 5 ≤ j → M' r0 j = M r0 j) → Q M') : w_X4_copyFrom r0 r1 M Q := by
  unfold w_X4_copyFrom
  rintro _ rfl _ rfl _ rfl
  obtain ⟨h0, h1, h2, h3, h4, h5, h6⟩ := hS
  have n0 : r1 ≠ r0 := by omega
  have n1 : r1 + 1 ≠ r0 := by omega
  have n2 : r1 + 2 ≠ r0 := by omega
  have n3 : r1 + 1 ≠ r0 + 1 := by omega
  have n4 : r1 + 2 ≠ r0 + 1 := by omega
  have n5 : r1 + 2 ≠ r0 + 2 := by omega
  have n6 : r1 ≠ r0 + 1 := by omega
  have n7 : r1 ≠ r0 + 2 := by omega
  have n8 : r1 + 1 ≠ r0 + 2 := by omega
  have m1 : r0 + 1 ≠ r0 := by omega
  have m2 : r0 + 2 ≠ r0 := by omega
  have m3 : r0 + 2 ≠ r0 + 1 := by omega
  have m4 : r0 ≠ r0 + 1 := by omega
  have m5 : r0 ≠ r0 + 2 := by omega
  have m6 : r0 + 1 ≠ r0 + 2 := by omega
  refine ⟨?_, ?_⟩
  · simp only [um_n n0, um_s, h3]
    exact zb_le hz
  · rintro _ rfl _ rfl _ rfl _ rfl
    refine h _ ⟨?_, ?_, ?_, ?_, ?_, fun f hf => ?_, fun k hk => ?_⟩ ⟨?_, ?_, ?_, ?_, ?_, fun f hf => ?_, fun k hk => ?_⟩ (fun a a0 a1 a2 => ?_) (fun j hj => ?_)
    · simp [um_a, upd_a, n0, n1, n2, n3, n4, n5, n6, n7, n8, m1, m2, m3, m4, m5, m6, h0]
    · simp [um_a, upd_a, n0, n1, n2, n3, n4, n5, n6, n7, n8, m1, m2, m3, m4, m5, m6]
      simpa using h1
    · simp [um_a, upd_a, n0, n1, n2, n3, n4, n5, n6, n7, n8, m1, m2, m3, m4, m5, m6, h2]
    · simp [um_a, upd_a, n0, n1, n2, n3, n4, n5, n6, n7, n8, m1, m2, m3, m4, m5, m6, h3]
    · simp [um_a, upd_a, n0, n1, n2, n3, n4, n5, n6, n7, n8, m1, m2, m3, m4, m5, m6, h4]
    · simp [um_a, upd_a, n0, n1, n2, n3, n4, n5, n6, n7, n8, m1, m2, m3, m4, m5, m6, va_cpy, hf, h5 f hf]
    · simp [um_a, upd_a, n0, n1, n2, n3, n4, n5, n6, n7, n8, m1, m2, m3, m4, m5, m6, va_cpy, hk, h6 k hk]
    · simp [um_a, upd_a, n0, n1, n2, n3, n4, n5, n6, n7, n8, m1, m2, m3, m4, m5, m6, h0]
    · simp [um_a, upd_a, n0, n1, n2, n3, n4, n5, n6, n7, n8, m1, m2, m3, m4, m5, m6]
      simpa using h1
    · simp [um_a, upd_a, n0, n1, n2, n3, n4, n5, n6, n7, n8, m1, m2, m3, m4, m5, m6, h2]
    · simp [um_a, upd_a, n0, n1, n2, n3, n4, n5, n6, n7, n8, m1, m2, m3, m4, m5, m6, h3]
    · simp [um_a, upd_a, n0, n1, n2, n3, n4, n5, n6, n7, n8, m1, m2, m3, m4, m5, m6, h4]
    · simp [um_a, upd_a, n0, n1, n2, n3, n4, n5, n6, n7, n8, m1, m2, m3, m4, m5, m6, h5 f hf]
    · simp [um_a, upd_a, n0, n1, n2, n3, n4, n5, n6, n7, n8, m1, m2, m3, m4, m5, m6, h6 k hk]
    · simp [um_a, a0, a1, a2]
    · have j0 : ¬ j = 0 := by omega
      have j1 : ¬ j = 1 := by omega
      have j2 : ¬ j = 2 := by omega
      have j3 : ¬ j = 3 := by omega
      have j4 : ¬ j = 4 := by omega
      simp [um_a, upd_a, m1, m2, m3, m4, m5, m6, j0, j1, j2, j3, j4]
/-! the history on both sides -/
abbrev isR (r : Nat) : Prop := r ∈ [9, 12, 15, 18]
theorem isS_R {r : Nat} (h : isR r) : isS r := by
  simp only [List.mem_cons, List.not_mem_nil, or_false] at h ⊢
  omega
def HC (M : Mem) (k : Nat) (H : Nat → Nat → Nat) : Prop := k ≤ 4 ∧ M 7 0 = nI k ∧ ∃ q : Nat → Nat, (∀ j, j < 4 → isR (q j) ∧ M 8 j = nI (q j)) ∧ (∀ i j, i < 4 → j < 4 → q i = q j → i = j) ∧ ∀ j, j < k → CS M (q j) (H j)
def pK (k : Nat) : Nat := if k < 4 then k + 1 else 4
def pH (k : Nat) (H : Nat → Nat → Nat) (G : Nat → Nat) : Nat → Nat → Nat := fun j => if k < 4 then (if j = k then G else H j) else (if j = 3 then G else H (j + 1))
theorem isR_lt {r : Nat} (h : isR r) : 9 ≤ r ∧ r ≤ 18 := by
  simp only [List.mem_cons, List.not_mem_nil, or_false] at h
  omega
theorem isR_apart {r s : Nat} (hr : isR r) (hs : isR s) (h : r ≠ s) : r + 2 < s ∨ s + 2 < r := by
  simp only [List.mem_cons, List.not_mem_nil, or_false] at hr hs
  omega
theorem pw_rowAt {M : Mem} {j : Nat} {Q : Int32 → Mem → Prop} (hj : j < 4) (h : Q (M 8 j) M) : w_X0_rowAt (nI j) M Q := by
  unfold w_X0_rowAt
  refine ⟨fun c => absurd c (nI_neg (by omega)), fun _ => ⟨fun c => ?_, fun _ => ⟨vp_in_nI hj (by decide), ?_⟩⟩⟩
  · rw [nI_leI (by decide) (by omega)] at c
    omega
  · rw [nI_clamp (by omega)]
    exact h
theorem lq_drop {M0 : Mem} {q : Nat → Nat} {K : Int32 → Mem → Prop} (hq : ∀ j, j < 4 → isR (q j))
    (h : ∀ M : Mem, (∀ a, a ≠ 8 → M a = M0 a) → (∀ i, i < 4 → M 8 i = nI (if i < 3 then q (i + 1) else q i)) → K (nI 4) M) :
    ∀ (n j : Nat) (M : Mem), 1 ≤ j → j ≤ 4 → 5 ≤ n + j → (∀ a, a ≠ 8 → M a = M0 a) → (∀ i, i < 4 → M 8 i = nI (if i + 1 < j then q (i + 1) else q i)) → w_X0_dropOldest_8 n (nI j) M K := by
  intro n
  induction n with
  | zero => intro j M h1 h2 h3; omega
  | succ n ih =>
    intro j M h1 h2 h3 hM h8
    unfold w_X0_dropOldest_8
    refine ⟨fun c => ?_, fun c => ?_⟩
    · rw [nI_leI (by decide) (by omega)] at c
      have e : j = 4 := by omega
      subst e
      refine h M hM (fun i hi => ?_)
      rw [h8 i hi]
      by_cases c3 : i < 3
      · rw [if_pos c3, if_pos (by omega)]
      · rw [if_neg c3, if_neg (by omega)]
    · rw [nI_leI (by decide) (by omega)] at c
      have hj4 : j < 4 := by omega
      have e8 := h8 j hj4
      rw [if_neg (by omega)] at e8
      have hb := isR_lt (hq j hj4)
      rw [pk_sub h1, nI_clamp (by omega), e8]
      refine ⟨vp_in_nI hj4 (by decide), ⟨nI_neg (by omega), ?_⟩, vp_in_nI (by omega) (by decide), ?_⟩
      · rw [nI_clamp (by omega)]
        exact isS_R (hq j hj4)
      · rintro _ rfl _ rfl
        rw [nI_clamp (by omega), nI_clamp (by omega), nI_add]
        refine ih (j + 1) _ (by omega) (by omega) (by omega) (fun a ha => ?_) (fun i hi => ?_)
        · rw [um_n ha]
          exact hM a ha
        · rw [um_s, upd_a]
          by_cases ci : i = j - 1
          · rw [if_pos ci, if_pos (by omega)]
            subst ci
            rw [show j - 1 + 1 = j by omega]
          · rw [if_neg ci, h8 i hi]
            by_cases c3 : i + 1 < j
            · rw [if_pos c3, if_pos (by omega)]
            · rw [if_neg c3, if_neg (by omega)]
theorem pw_record {M : Mem} {G : Nat → Nat} {k : Nat} {H : Nat → Nat → Nat} {Q : Mem → Prop} (hS : CS M 1 G) (hz : G 17 ≤ 1) (hH : HC M k H)
    (h : ∀ M', HC M' (pK k) (pH k H G) → (∀ a, a < 7 ∨ 20 < a → M' a = M a) → Q M') : w_X0_record 1 M Q := by
  unfold w_X0_record
  obtain ⟨hk, h7, q, hq, hi, hc⟩ := hH
  rw [h7]
  have step : ∀ (M1 : Mem) (q1 : Nat → Nat) (k1 : Nat) (H1 : Nat → Nat → Nat), k1 < 4 → M1 7 0 = nI k1 → (∀ j, j < 4 → isR (q1 j) ∧ M1 8 j = nI (q1 j)) → (∀ i j, i < 4 → j < 4 → q1 i = q1 j → i = j) → (∀ j, j < k1 → CS M1 (q1 j) (H1 j)) → CS M1 1 G → (∀ a, a < 7 ∨ 20 < a → M1 a = M a) →
      (∀ M', HC M' (k1 + 1) (fun j => if j = k1 then G else H1 j) → (∀ a, a < 7 ∨ 20 < a → M' a = M a) → Q M') →
      w_X0_rowAt (nI k1) M1 (fun v3 M2 => ((¬ v3 < 0 ∧ isS v3.toNatClampNeg) ∧ w_X4_copyFrom (v3.toNatClampNeg) 1 M2 (fun M5 => ∀ M6 : Nat → Nat → Int32, M6 = um M5 7 (upd (M5 7) 0 ((M5 7 0) + (nI 1))) → Q M6))) := by
    intro M1 q1 k1 H1 hk1 e7 hq1 hi1 hc1 hS1 hM1 hQ
    refine pw_rowAt hk1 ?_
    have hb := isR_lt (hq1 k1 hk1).1
    rw [(hq1 k1 hk1).2, nI_clamp (by omega)]
    refine ⟨⟨nI_neg (by omega), isS_R (hq1 k1 hk1).1⟩, ?_⟩
    refine pw_copyFrom (by omega) hS1 hz (fun M' c0 c1 hk0 hx => ?_)
    rintro _ rfl
    have e7' : M' 7 = M1 7 := hk0 7 (by omega) (by omega) (by omega)
    have e8' : M' 8 = M1 8 := hk0 8 (by omega) (by omega) (by omega)
    have keep : ∀ a, a ≠ 7 → um M' 7 (upd (M' 7) 0 (M' 7 0 + nI 1)) a = M' a := fun a ha => um_n ha
    refine hQ _ ⟨by omega, ?_, q1, fun j hj => ⟨(hq1 j hj).1, ?_⟩, hi1, fun j hj => ?_⟩ (fun a ha => ?_)
    · rw [um_s, upd_s, e7', e7, nI_add]
    · rw [keep 8 (by decide), e8']
      exact (hq1 j hj).2
    · dsimp only
      by_cases cj : j = k1
      · subst cj
        rw [if_pos rfl]
        exact c0.kept (keep _ (by omega)) (keep _ (by omega)) (keep _ (by omega))
      · rw [if_neg cj]
        have hbj := isR_lt (hq1 j (by omega)).1
        have hap := isR_apart (hq1 j (by omega)).1 (hq1 k1 hk1).1 (fun z => cj (hi1 j k1 (by omega) hk1 z))
        refine (hc1 j (by omega)).kept ?_ ?_ ?_
        · rw [keep _ (by omega)]; exact hk0 _ (by omega) (by omega) (by omega)
        · rw [keep _ (by omega)]; exact hk0 _ (by omega) (by omega) (by omega)
        · rw [keep _ (by omega)]; exact hk0 _ (by omega) (by omega) (by omega)
    · rw [keep a (by omega), hk0 a (by omega) (by omega) (by omega)]
      exact hM1 a ha
  refine ⟨fun c => ?_, fun c => ?_⟩
  · rw [nI_ltI (by omega) (by decide)] at c
    refine step M q k H c h7 hq hi hc hS (fun _ _ => rfl) ?_
    intro M' hH' hM'
    refine h M' ?_ hM'
    unfold pK pH
    simp only [if_pos c]
    exact hH'
  · rw [nI_ltI (by omega) (by decide)] at c
    have e4 : k = 4 := by omega
    subst e4
    unfold w_X0_dropOldest
    refine pw_rowAt (j := 0) (by decide) ?_
    have hb0 := isR_lt (hq 0 (by decide)).1
    rw [(hq 0 (by decide)).2, nI_clamp (by omega)]
    refine ⟨⟨nI_neg (by omega), isS_R (hq 0 (by decide)).1⟩, ?_⟩
    refine lq_drop (M0 := M) (q := q) (fun j hj => (hq j hj).1) (fun M1 hM1 h81 => ?_) FU 1 M (by decide) (by decide) (by decide) (fun _ _ => rfl) (fun i hi4 => by rw [if_neg (by omega)]; exact (hq i hi4).2)
    rintro _ rfl
    rw [um_s, upd_s, show nI 4 - nI 1 = nI 3 by decide]
    refine ⟨vp_in_nI (by decide) (by decide), ?_⟩
    rintro _ rfl
    rw [um_n (show (8 : Nat) ≠ 7 by decide), show (nI 3).toNatClampNeg = 3 by decide]
    have k7 : ∀ a, a ≠ 7 → a ≠ 8 → um (um M1 7 (upd (M1 7) 0 (nI 3))) 8 (upd (M1 8) 3 (nI (q 0))) a = M a := fun a a7 a8 => by rw [um_n a8, um_n a7]; exact hM1 a a8
    have e7 : um (um M1 7 (upd (M1 7) 0 (nI 3))) 8 (upd (M1 8) 3 (nI (q 0))) 7 0 = nI 3 := by rw [um_n (show (7 : Nat) ≠ 8 by decide), um_s, upd_s]
    rw [e7]
    refine step _ (fun i => if i < 3 then q (i + 1) else q 0) 3 (fun j => H (j + 1)) (by decide) e7 (fun j hj => ?_) (fun i j hi4 hj4 e => ?_) (fun j hj => ?_) ?_ (fun a ha => k7 a (by omega) (by omega)) ?_
    · rw [um_s, upd_a]
      by_cases c3 : j = 3
      · subst c3
        exact ⟨(hq 0 (by decide)).1, rfl⟩
      · rw [if_neg c3, h81 j hj]
        simp only [show j < 3 by omega, if_true]
        exact ⟨(hq (j + 1) (by omega)).1, trivial⟩
    · by_cases ci : i < 3 <;> by_cases cj : j < 3 <;> simp only [ci, cj, if_true, if_false] at e
      · have := hi (i + 1) (j + 1) (by omega) (by omega) e
        omega
      · have := hi (i + 1) 0 (by omega) (by omega) e
        omega
      · have := hi 0 (j + 1) (by omega) (by omega) e
        omega
      · omega
    · simp only [hj, if_true]
      have hbj := isR_lt (hq (j + 1) (by omega)).1
      exact (hc (j + 1) (by omega)).kept (k7 _ (by omega) (by omega)) (k7 _ (by omega) (by omega)) (k7 _ (by omega) (by omega))
    · exact hS.kept (k7 _ (by decide) (by decide)) (k7 _ (by decide) (by decide)) (k7 _ (by decide) (by decide))
    · intro M' hH' hM'
      refine h M' ?_ hM'
      unfold pK pH
      simp only [show ¬ (4 < 4) by decide, if_false]
      exact hH'
/-! what both sides compute, as numbers: the part of a strip that shapes and orders hang on -/
def cor (G : Nat → Nat) : Nat → Nat := fun i => if i = 0 then G 0 else if i ≤ 1 + G 0 ∧ i ≤ 8 then G i else if 9 ≤ i ∧ i < 9 + G 0 then G i else if 18 ≤ i ∧ i ≤ 20 then G i else 0
def CV (S : Nat → Nat) : Prop := (1 ≤ S 0 ∧ S 0 ≤ 7) ∧ (∀ f, f ≤ S 0 → 1 ≤ S (1 + f) ∧ S (1 + f) ≤ 9) ∧ (∀ b, b < S 0 → S (9 + b) ≤ 1) ∧ (1 ≤ S 18 ∧ S 18 ≤ 12) ∧ S 19 ≤ 3 ∧ S 20 ≤ 9
def CC (M : Mem) (r : Nat) (S : Nat → Nat) : Prop := M r 0 = nI (S 0) ∧ (∀ b, b < S 0 → (M r 1 >>> (nI b &&& 31)) &&& nI 1 = nI (if S (9 + b) = 1 then 1 else 0)) ∧ (∀ f, f ≤ S 0 → M (r + 1) f = nI (S (1 + f))) ∧ ∀ k, k < 3 → M (r + 2) k = nI (S (18 + k))
def RC (row : Nat → Int32) (S : Nat → Nat) : Prop := row 0 = nI (S 0) ∧ (∀ b, b < S 0 → row (9 + b) = nI (S (9 + b))) ∧ (∀ f, f ≤ S 0 → row (1 + f) = nI (S (1 + f))) ∧ ∀ k, k < 3 → row (18 + k) = nI (S (18 + k))
theorem cor_0 (G : Nat → Nat) : cor G 0 = G 0 := if_pos rfl
theorem cor_f {G : Nat → Nat} {f : Nat} (h7 : G 0 ≤ 7) (hf : f ≤ G 0) : cor G (1 + f) = G (1 + f) := by
  unfold cor
  rw [if_neg (by omega), if_pos (by omega)]
theorem cor_b {G : Nat → Nat} {b : Nat} (hb : b < G 0) : cor G (9 + b) = G (9 + b) := by
  unfold cor
  rw [if_neg (by omega), if_neg (by omega), if_pos (by omega)]
theorem cor_k {G : Nat → Nat} {k : Nat} (h7 : G 0 ≤ 7) (hk : k < 3) : cor G (18 + k) = G (18 + k) := by
  unfold cor
  rw [if_neg (by omega), if_neg (by omega), if_neg (by omega), if_pos (by omega)]
theorem cor_cor {G : Nat → Nat} : cor (cor G) = cor G := by
  funext i
  have e0 := cor_0 G
  by_cases h0 : i = 0
  · subst h0; rw [cor_0]
  · show (if i = 0 then cor G 0 else if i ≤ 1 + cor G 0 ∧ i ≤ 8 then cor G i else if 9 ≤ i ∧ i < 9 + cor G 0 then cor G i else if 18 ≤ i ∧ i ≤ 20 then cor G i else 0) = cor G i
    rw [e0, if_neg h0]
    by_cases h1 : i ≤ 1 + G 0 ∧ i ≤ 8
    · rw [if_pos h1]
    · rw [if_neg h1]
      by_cases h2 : 9 ≤ i ∧ i < 9 + G 0
      · rw [if_pos h2]
      · rw [if_neg h2]
        by_cases h3 : 18 ≤ i ∧ i ≤ 20
        · rw [if_pos h3]
        · rw [if_neg h3]
          unfold cor
          rw [if_neg h0, if_neg h1, if_neg h2, if_neg h3]
theorem VG.cv {G : Nat → Nat} (h : VG G) : CV (cor G) := by
  obtain ⟨h0, h1, h2, h3, h4, h5, h6, h7, h8⟩ := h
  unfold CV
  rw [cor_0]
  refine ⟨h0, fun f hf => ?_, fun b hb => ?_, ?_, ?_, ?_⟩
  · rw [cor_f h0.2 hf]; exact h1 f hf
  · rw [cor_b hb]; exact h2 b hb
  · rw [show (18 : Nat) = 18 + 0 by rfl, cor_k h0.2 (by decide)]; exact h5
  · rw [show (19 : Nat) = 18 + 1 by rfl, cor_k h0.2 (by decide)]; exact h6
  · rw [show (20 : Nat) = 18 + 2 by rfl, cor_k h0.2 (by decide)]; exact h7
theorem CS.cc {M : Mem} {r : Nat} {G : Nat → Nat} (h : CS M r G) (hV : VG G) : CC M r (cor G) := by
  have hu := fun b (hb : b < 8) => h.up hb
  obtain ⟨h0, -, -, -, -, h5, h6⟩ := h
  have h7 := hV.1.2
  refine ⟨by rw [cor_0]; exact h0, fun b hb => ?_, fun f hf => ?_, fun k hk => ?_⟩
  · rw [cor_0] at hb
    rw [cor_b hb, hu b (by omega)]
    by_cases c : G (9 + b) = 1
    · rw [if_pos ⟨hb, by omega, c⟩, if_pos c]
    · rw [if_neg (fun z => c z.2.2), if_neg c]
  · rw [cor_0] at hf
    rw [cor_f h7 hf]; exact h5 f (by omega)
  · rw [cor_k h7 hk]; exact h6 k (by omega)
theorem RG.rc {row : Nat → Int32} {G : Nat → Nat} (h : RG row G) (hV : VG G) : RC row (cor G) := by
  have h7 := hV.1.2
  refine ⟨by rw [cor_0]; exact h 0 (by decide), fun b hb => ?_, fun f hf => ?_, fun k hk => ?_⟩
  · rw [cor_0] at hb
    rw [cor_b hb]; exact h _ (by omega)
  · rw [cor_0] at hf
    rw [cor_f h7 hf]; exact h _ (by omega)
  · rw [cor_k h7 hk]; exact h _ (by omega)
theorem CC.kept {M M' : Mem} {r : Nat} {S : Nat → Nat} (h : CC M r S) (e0 : M' r = M r) (e1 : M' (r + 1) = M (r + 1)) (e2 : M' (r + 2) = M (r + 2)) : CC M' r S := by
  unfold CC
  rw [e0, e1, e2]
  exact h
-- the shape: start and way of each flange (0 right, 1 up, 2 left, 3 down), with the bend b at the tool, d done, v laid over
def gdx (w : Nat) : Int := if w = 0 then 1 else if w = 2 then -1 else 0
def gdy (w : Nat) : Int := if w = 1 then 1 else if w = 3 then -1 else 0
def gtr (S : Nat → Nat) (d v j : Nat) (right : Bool) : Nat := if d.testBit j then (if decide (S (9 + j) ≠ v) = right then 1 else 3) else 0
def gR (S : Nat → Nat) (b d v : Nat) : Nat → Int × Int × Nat
  | 0 => (0, 0, 0)
  | i + 1 => ((gR S b d v i).1 + (S (1 + (b + 1 + i)) : Int) * gdx (gR S b d v i).2.2, (gR S b d v i).2.1 + (S (1 + (b + 1 + i)) : Int) * gdy (gR S b d v i).2.2, ((gR S b d v i).2.2 + gtr S d v (b + 1 + i) true) % 4)
def gL (S : Nat → Nat) (b d v : Nat) : Nat → Int × Int × Nat
  | 0 => (0, 0, 2)
  | i + 1 => ((gL S b d v i).1 + (S (1 + (b - i)) : Int) * gdx (gL S b d v i).2.2, (gL S b d v i).2.1 + (S (1 + (b - i)) : Int) * gdy (gL S b d v i).2.2, ((gL S b d v i).2.2 + gtr S d v (b - (i + 1)) false) % 4)
def gF (S : Nat → Nat) (b d v f : Nat) : Int × Int × Nat := if b < f then gR S b d v (f - b - 1) else gL S b d v (b - f)
abbrev BX : Type := (Int × Int) × (Int × Int)
/-- the box that holds a flange's points and no others -/
def bxF (S : Nat → Nat) (b d v f : Nat) : BX :=
  ((min (gF S b d v f).1 ((gF S b d v f).1 + (S (1 + f) : Int) * gdx (gF S b d v f).2.2), max (gF S b d v f).1 ((gF S b d v f).1 + (S (1 + f) : Int) * gdx (gF S b d v f).2.2)),
   (min (gF S b d v f).2.1 ((gF S b d v f).2.1 + (S (1 + f) : Int) * gdy (gF S b d v f).2.2), max (gF S b d v f).2.1 ((gF S b d v f).2.1 + (S (1 + f) : Int) * gdy (gF S b d v f).2.2)))
def bxS (S : Nat → Nat) (b d v f : Nat) : BX := if f ≤ b then ((bxF S b d v f).2, (-(bxF S b d v f).1.2, -(bxF S b d v f).1.1)) else bxF S b d v f
def hitB (B : BX) (x1 x2 y1 y2 : Int) : Bool := decide (¬ B.1.2 < x1) && decide (¬ x2 < B.1.1) && decide (¬ y2 < B.2.1) && decide (¬ B.2.2 < y1) && decide (y1 ≤ y2)
def uppB (S : Nat → Nat) (B : BX) : Bool := hitB B 1 1 1 (min 2 (S 18 : Int)) || hitB B 1 (1 + (S 19 : Int)) 3 (S 18 : Int)
def lowB (B : BX) : Bool := hitB B 1 3 (-3) (-1)
def anyF (n : Nat) (p : Nat → Bool) : Bool := (List.range (n + 1)).any p
def selfB (S : Nat → Nat) (b d v : Nat) : Bool := anyF (S 0) (fun f => anyF (S 0) (fun g => decide (f + 2 ≤ g) && hitB (bxS S b d v g) (bxS S b d v f).1.1 (bxS S b d v f).1.2 (bxS S b d v f).2.1 (bxS S b d v f).2.2))
/-- how much is clamped behind the flange in front of the bound j -/
def clF (S : Nat → Nat) (d : Nat) : Nat → Nat → Nat
  | 0, _ => 0
  | k + 1, j => if j < S 0 ∧ d.testBit j = false then S (1 + (j + 1)) + clF S d k (j + 1) else 0
def clm (S : Nat → Nat) (b d : Nat) : Nat := S (1 + (b + 1)) + clF S d 8 (b + 1)
def rsn (S : Nat → Nat) (b d v : Nat) : Nat :=
  if d.testBit b then 1 else if S (9 + b) = v then 2 else if clm S b d < S 20 then 3
  else if anyF (S 0) (fun f => uppB S (bxF S b d v f) || uppB S (bxS S b d v f)) then 4
  else if anyF (S 0) (fun f => lowB (bxF S b d v f) || lowB (bxS S b d v f)) then 5
  else if selfB S b d v then 6 else 0
-- the orders: how many go on from a set, and which bends lead on
def okS (S : Nat → Nat) (b d : Nat) : Bool := decide (rsn S b d (1 - S (9 + b)) = 0)
def smB (f : Nat → Nat) : Nat → Nat
  | 0 => 0
  | n + 1 => smB f n + f n
def wN (S : Nat → Nat) : Nat → Nat → Nat
  | 0, _ => 0
  | k + 1, d => (if d = 2 ^ S 0 - 1 then 1 else 0) + smB (fun b => if okS S b d then wN S k (d ||| 2 ^ b) else 0) (S 0)
def wS (S : Nat → Nat) (d : Nat) : Nat := wN S 200 d
def bsB (f : Nat → Bool) : Nat → Nat
  | 0 => 0
  | n + 1 => if f n then bsB f n ||| 2 ^ n else bsB f n
def ldS (S : Nat → Nat) (d : Nat) : Nat := bsB (fun b => okS S b d && decide (0 < wS S (d ||| 2 ^ b))) (S 0)
def PLN (M : Mem) : Prop := M 31 2 = nI 0 ∨ (M 31 2 = nI 1 ∧ ∃ S, CV S ∧ cor S = S ∧ CC M 40 S ∧ ∀ d, d < 2 ^ S 0 → M 43 d = nI (wS S d) ∧ M 44 d = nI (ldS S d))
theorem PLN.kept {M M' : Mem} (h : PLN M) (e1 : M' 31 = M 31) (e2 : M' 40 = M 40) (e3 : M' 41 = M 41) (e4 : M' 42 = M 42) (e5 : M' 43 = M 43) (e6 : M' 44 = M 44) : PLN M' := by
  unfold PLN
  rw [e1, e5, e6]
  rcases h with h | ⟨h, S, h1, h2, h3, h4⟩
  · exact Or.inl h
  · exact Or.inr ⟨h, S, h1, h2, h3.kept e2 e3 e4, h4⟩
theorem HC.kept {M M' : Mem} {k : Nat} {H : Nat → Nat → Nat} (h : HC M k H) (e : ∀ a, 7 ≤ a → a ≤ 20 → M' a = M a) : HC M' k H := by
  obtain ⟨h1, h2, q, h3, h4, h5⟩ := h
  refine ⟨h1, by rw [e 7 (by decide) (by decide)]; exact h2, q, fun j hj => ⟨(h3 j hj).1, by rw [e 8 (by decide) (by decide)]; exact (h3 j hj).2⟩, h4, fun j hj => ?_⟩
  have hb := isR_lt (h3 j (by omega)).1
  exact (h5 j hj).kept (e _ (by omega) (by omega)) (e _ (by omega) (by omega)) (e _ (by omega) (by omega))
