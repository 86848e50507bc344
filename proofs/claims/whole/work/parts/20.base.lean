/-! numbers and memories -/
abbrev Mem : Type := Nat → Nat → Int32
theorem um_s (M : Mem) (a : Nat) (f : Nat → Int32) : um M a f a = f := if_pos rfl
theorem um_n {M : Mem} {a b : Nat} {f : Nat → Int32} (h : b ≠ a) : um M a f b = M b := if_neg h
theorem upd_s (f : Nat → Int32) (k : Nat) (x : Int32) : upd f k x k = x := if_pos rfl
theorem upd_n {f : Nat → Int32} {k j : Nat} {x : Int32} (h : j ≠ k) : upd f k x j = f j := if_neg h
theorem um_a (M : Mem) (a : Nat) (f : Nat → Int32) (b : Nat) : um M a f b = if b = a then f else M b := rfl
theorem upd_a (f : Nat → Int32) (k : Nat) (x : Int32) (j : Nat) : upd f k x j = if j = k then x else f j := rfl
theorem nI_z {j : Nat} (h : j < 2 ^ 31) : nI j = 0 ↔ j = 0 := by
  rw [← nI_0]; exact nI_eq h (by decide)
theorem nI_nz {j : Nat} (h : j < 2 ^ 31) : ¬ nI j = 0 ↔ j ≠ 0 := not_congr (nI_z h)
theorem nI_neg {j : Nat} (h : j < 2 ^ 31) : ¬ nI j < 0 := nI_pos h
/-- an int is below zero, or a small number -/
theorem nI_cases (a : Int32) : a < 0 ∨ ∃ j, j < 2 ^ 31 ∧ a = nI j := by
  by_cases h : a < 0
  · exact Or.inl h
  · exact Or.inr (nI_of h)
theorem bit_get : ∀ u, u < 128 → ∀ b, b < 8 → (nI u >>> (nI b &&& 31)) &&& nI 1 = if u.testBit b then nI 1 else nI 0 := by decide +kernel
theorem bit_set : ∀ u, u < 128 → ∀ b, b < 7 → nI u ||| (nI 1 <<< (nI b &&& 31)) = nI (u ||| 2 ^ b) := by decide +kernel
theorem bit_clr : ∀ u, u < 128 → ∀ b, b < 7 → nI u &&& ((nI 1 <<< (nI b &&& 31)) ^^^ (-1)) = nI (if u.testBit b then u - 2 ^ b else u) := by decide +kernel
theorem bit_sub : ∀ u, u < 128 → ∀ b, b < 7 → u.testBit b = true → nI u - (nI 1 <<< (nI b &&& 31)) = nI (u - 2 ^ b) := by decide +kernel
theorem bit_all : ∀ n, n < 8 → (nI 1 <<< (nI n &&& 31)) - nI 1 = nI (2 ^ n - 1) := by decide +kernel
theorem bit_or_lt : ∀ u, u < 128 → ∀ b, b < 7 → u ||| 2 ^ b < 128 := by decide +kernel
theorem bit_sh : ∀ b, b < 7 → nI 1 <<< (nI b &&& 31) = nI (2 ^ b) := by decide +kernel
def pcn (u : Nat) : Nat := (u / 1 % 2) + (u / 2 % 2) + (u / 4 % 2) + (u / 8 % 2) + (u / 16 % 2) + (u / 32 % 2) + (u / 64 % 2)
def pck (u j : Nat) : Nat := match j with
  | 0 => 0
  | j + 1 => pck u j + (if u.testBit j then 1 else 0)
theorem pck_7 : ∀ u, u < 128 → pck u 7 = pcn u := by decide +kernel
theorem pcn_le : ∀ u, u < 128 → pcn u ≤ 7 := by decide +kernel
def bcE (a : Int32) : Int32 :=
  (fun y1 => (fun y2 => (fun y3 => (fun y4 => (fun y5 => (fun y6 => (fun y7 => y7 &&& nI 63) (y6 + (y6.toUInt32 >>> ((nI 16).toUInt32 &&& Int32.toUInt32 31)).toInt32)) (y5 + (y5.toUInt32 >>> ((nI 8).toUInt32 &&& Int32.toUInt32 31)).toInt32)) ((y4 + (y4.toUInt32 >>> ((nI 4).toUInt32 &&& Int32.toUInt32 31)).toInt32) &&& nI 252645135)) ((y2 &&& nI 858993459) + y3)) ((y2.toUInt32 >>> ((nI 2).toUInt32 &&& Int32.toUInt32 31)).toInt32 &&& nI 858993459)) (a - y1)) ((a.toUInt32 >>> ((nI 1).toUInt32 &&& Int32.toUInt32 31)).toInt32 &&& nI 1431655765)
theorem bc_dec : ∀ u, u < 128 → bcE (nI u) = nI (pcn u) := by decide +kernel
theorem pw_bc {u : Nat} {M : Mem} {Q : Int32 → Mem → Prop} (hu : u < 128) (h : Q (nI (pcn u)) M) : w_J6_bitCount_0f7a4 (nI u) M Q := by
  unfold w_J6_bitCount_0f7a4
  repeat rintro _ rfl
  have e := bc_dec u hu
  show Q (bcE (nI u)) M
  rw [e]
  exact h
theorem lq_many {u : Nat} {M : Mem} {K : Int32 → Int32 → Mem → Prop} (hu : u < 128) (h : K (nI (pcn u)) (nI 7) M) : ∀ (n j : Nat), j ≤ 7 → 8 ≤ n + j → w_X7_many_4 n (nI u) (nI (pck u j)) (nI j) M K := by
  intro n
  induction n with
  | zero => intro j h1 h2; omega
  | succ n ih =>
    intro j hj hn
    unfold w_X7_many_4
    refine ⟨fun c => ?_, fun c => ?_⟩
    · rw [nI_leI (by decide) (by omega)] at c
      have e : j = 7 := by omega
      subst e
      rw [pck_7 u hu]
      exact h
    · rw [nI_leI (by decide) (by omega)] at c
      rintro _ rfl _ rfl
      rw [bit_get u hu j (by omega), nI_add]
      have e : nI (pck u j) + (if u.testBit j = true then nI 1 else nI 0) = nI (pck u (j + 1)) := by
        show _ = nI (pck u j + (if u.testBit j = true then 1 else 0))
        rw [← nI_add]
        split <;> rfl
      rw [e]
      exact ih (j + 1) (by omega) (by omega)
theorem pw_many {u : Nat} {M : Mem} {Q : Int32 → Mem → Prop} (hu : u < 128) (h : Q (nI (pcn u)) M) : w_X7_many (nI u) M Q := by
  unfold w_X7_many
  exact lq_many hu h FU 0 (by decide) (by decide)
/-- a strip as numbers, in the places of the reference's row: 0 bends, 1.. lengths, 9.. up, 16 done, 17 laid, 18.. settings, 22 bendings -/
def VG (G : Nat → Nat) : Prop := (1 ≤ G 0 ∧ G 0 ≤ 7) ∧ (∀ f, f ≤ G 0 → 1 ≤ G (1 + f) ∧ G (1 + f) ≤ 9) ∧ (∀ b, b < G 0 → G (9 + b) ≤ 1) ∧ G 16 < 2 ^ G 0 ∧ G 17 ≤ 1 ∧ (1 ≤ G 18 ∧ G 18 ≤ 12) ∧ G 19 ≤ 3 ∧ G 20 ≤ 9 ∧ G 21 ≤ 9
def RG (row : Nat → Int32) (G : Nat → Nat) : Prop := ∀ i, i < 23 → row i = nI (G i)
def CS (M : Mem) (r : Nat) (G : Nat → Nat) : Prop := M r 0 = nI (G 0) ∧ (∃ u, M r 1 = nI u ∧ u < 128 ∧ ∀ b, b < 7 → u.testBit b = decide (b < G 0 ∧ G (9 + b) = 1)) ∧ M r 2 = nI (G 16) ∧ M r 3 = nI (G 17) ∧ M r 4 = nI (G 22) ∧ (∀ f, f < 8 → M (r + 1) f = nI (G (1 + f))) ∧ ∀ k, k < 4 → M (r + 2) k = nI (G (18 + k))
theorem VG.d {G : Nat → Nat} (h : VG G) : G 16 < 128 := Nat.lt_of_lt_of_le h.2.2.2.1 (Nat.pow_le_pow_right (by decide) h.1.2 : 2 ^ G 0 ≤ 2 ^ 7)
theorem CS.up {M : Mem} {r b : Nat} {G : Nat → Nat} (h : CS M r G) (hb : b < 8) : (M r 1 >>> (nI b &&& 31)) &&& nI 1 = if b < G 0 ∧ b < 7 ∧ G (9 + b) = 1 then nI 1 else nI 0 := by
  obtain ⟨-, ⟨u, e, hu, ht⟩, -⟩ := h
  rw [e, bit_get u hu b hb]
  by_cases h7 : b < 7
  · rw [ht b h7]
    by_cases c : b < G 0 ∧ G (9 + b) = 1
    · rw [if_pos (by simpa using c), if_pos ⟨c.1, h7, c.2⟩]
    · rw [if_neg (by simpa using c), if_neg (fun z => c ⟨z.1, z.2.2⟩)]
  · have e7 : b = 7 := by omega
    subst e7
    have e0 : u.testBit 7 = false := Nat.testBit_lt_two_pow (by omega)
    rw [e0, if_neg (by decide), if_neg (by omega)]
theorem CS.kept {M M' : Mem} {r : Nat} {G : Nat → Nat} (h : CS M r G) (e0 : M' r = M r) (e1 : M' (r + 1) = M (r + 1)) (e2 : M' (r + 2) = M (r + 2)) : CS M' r G := by
  unfold CS
  rw [e0, e1, e2]
  exact h
-- reads of a strip
theorem pw_lengthAt {M : Mem} {r f : Nat} {Q : Int32 → Mem → Prop} (hf : f < 8) (h : Q (M (r + 1) f) M) : w_X4_lengthAt r (nI f) M Q := by
  unfold w_X4_lengthAt
  refine ⟨fun c => absurd c (nI_neg (by omega)), fun _ => ⟨fun c => ?_, fun _ => ⟨vp_in_nI hf (by decide), ?_⟩⟩⟩
  · rw [nI_leI (by decide) (by omega)] at c
    omega
  · rw [nI_clamp (by omega)]
    exact h
theorem pw_settingAt {M : Mem} {r k : Nat} {Q : Int32 → Mem → Prop} (hk : k < 4) (h : Q (M (r + 2) k) M) : w_X4_settingAt r (nI k) M Q := by
  unfold w_X4_settingAt
  refine ⟨fun c => absurd c (nI_neg (by omega)), fun _ => ⟨fun c => ?_, fun _ => ⟨vp_in_nI hk (by decide), ?_⟩⟩⟩
  · rw [nI_leI (by decide) (by omega)] at c
    omega
  · rw [nI_clamp (by omega)]
    exact h
theorem pw_isUp {M : Mem} {r b : Nat} {G : Nat → Nat} {Q : Int32 → Mem → Prop} (hS : CS M r G) (hV : VG G) (hb : b < G 0) (h : Q (nI (if G (9 + b) = 1 then 1 else 0)) M) : w_X4_isUp r (nI b) M Q := by
  unfold w_X4_isUp
  have hb7 : b < 7 := Nat.lt_of_lt_of_le hb hV.1.2
  rw [hS.up (by omega)]
  by_cases c : G (9 + b) = 1
  · rw [if_pos ⟨hb, hb7, c⟩]
    rw [if_pos c] at h
    exact ⟨fun z => absurd rfl z, fun _ => h⟩
  · rw [if_neg (fun z => c z.2.2)]
    rw [if_neg c] at h
    exact ⟨fun _ => h, fun z => absurd z (by decide)⟩
theorem pw_isDone {M : Mem} {r b d : Nat} {Q : Int32 → Mem → Prop} (hd : M r 2 = nI d) (hd2 : d < 128) (hb : b < 8) (h : Q (nI (if d.testBit b then 1 else 0)) M) : w_X4_isDone r (nI b) M Q := by
  unfold w_X4_isDone
  rw [hd, bit_get d hd2 b hb]
  by_cases c : d.testBit b = true
  · rw [if_pos c] at h ⊢
    exact ⟨fun z => absurd rfl z, fun _ => h⟩
  · rw [if_neg c] at h ⊢
    exact ⟨fun _ => h, fun z => absurd z (by decide)⟩
theorem pw_has {M : Mem} {b d : Nat} {Q : Int32 → Mem → Prop} (hd2 : d < 128) (hb : b < 8) (h : Q (nI (if d.testBit b then 1 else 0)) M) : w_X7_has (nI d) (nI b) M Q := by
  unfold w_X7_has
  rw [bit_get d hd2 b hb]
  by_cases c : d.testBit b = true
  · rw [if_pos c] at h ⊢
    exact ⟨fun z => absurd rfl z, fun _ => h⟩
  · rw [if_neg c] at h ⊢
    exact ⟨fun _ => h, fun z => absurd z (by decide)⟩
theorem zb_0 : zb (nI 0) := ⟨rfl, rfl⟩
theorem zb_1 : zb (nI 1) := ⟨rfl, rfl⟩
theorem zb_le {j : Nat} (h : j ≤ 1) : zb (nI j) := by
  rcases (show j = 0 ∨ j = 1 by omega) with rfl | rfl
  · exact zb_0
  · exact zb_1
/-- which bend an int names -/
theorem pw_hasBend {M : Mem} {r n : Nat} {a : Int32} {Q : Int32 → Mem → Prop} (hn : M r 0 = nI n) (hn7 : n ≤ 7) (h0 : (∀ b, b < n → a ≠ nI b) → Q (nI 0) M) (h1 : ∀ b, b < n → a = nI b → Q (nI 1) M) : w_X4_hasBend r a M Q := by
  unfold w_X4_hasBend
  rw [hn]
  refine ⟨fun c => h0 (fun b hb e => ?_), fun c => ⟨fun c2 => h0 (fun b hb e => ?_), fun c2 => ?_⟩⟩
  · rw [e] at c; exact nI_neg (by omega) c
  · rw [e, nI_leI (by omega) (by omega)] at c2; omega
  · obtain ⟨j, hj, e⟩ := nI_of c
    rw [e, nI_leI (by omega) hj] at c2
    exact h1 j (by omega) e
theorem pw_hasFlange {M : Mem} {r n : Nat} {a : Int32} {Q : Int32 → Mem → Prop} (hn : M r 0 = nI n) (hn7 : n ≤ 7) (h0 : (∀ b, b ≤ n → a ≠ nI b) → Q (nI 0) M) (h1 : ∀ b, b ≤ n → a = nI b → Q (nI 1) M) : w_X4_hasFlange r a M Q := by
  unfold w_X4_hasFlange
  rw [hn]
  refine ⟨fun c => h0 (fun b hb e => ?_), fun c => ⟨fun c2 => h0 (fun b hb e => ?_), fun c2 => ?_⟩⟩
  · rw [e] at c; exact nI_neg (by omega) c
  · rw [e, nI_ltI (by omega) (by omega)] at c2; omega
  · obtain ⟨j, hj, e⟩ := nI_of c
    rw [e, nI_ltI (by omega) hj] at c2
    exact h1 j (by omega) e
theorem pw_in {M : Mem} {a lo hi : Int32} {Q : Int32 → Mem → Prop} (h0 : a < lo ∨ hi < a → Q (nI 0) M) (h1 : ¬ a < lo → ¬ hi < a → Q (nI 1) M) : w_X7_in a lo hi M Q :=
  ⟨fun c => h0 (Or.inl c), fun c => ⟨fun c2 => h0 (Or.inr c2), fun c2 => h1 c c2⟩⟩
theorem pw_isBend {M : Mem} {n : Nat} {a : Int32} {Q : Int32 → Mem → Prop} (hn : M 1 0 = nI n) (hn1 : 1 ≤ n) (hn7 : n ≤ 7) (h0 : (∀ b, b < n → a ≠ nI b) → Q (nI 0) M) (h1 : ∀ b, b < n → a = nI b → Q (nI 1) M) : w_X7_isBend a M Q := by
  unfold w_X7_isBend
  rw [hn, pk_sub hn1]
  refine pw_in (fun c => ⟨zb_0, h0 (fun b hb e => ?_)⟩) (fun c c2 => ?_)
  · rw [e] at c
    rcases c with c | c
    · rw [nI_ltI (by omega) (by omega)] at c; omega
    · rw [nI_ltI (by omega) (by omega)] at c; omega
  · rw [nI_0] at c
    obtain ⟨j, hj, e⟩ := nI_of c
    rw [e, nI_ltI (by omega) hj] at c2
    exact ⟨zb_1, h1 j (by omega) e⟩
theorem pw_isFlange {M : Mem} {n : Nat} {a : Int32} {Q : Int32 → Mem → Prop} (hn : M 1 0 = nI n) (hn7 : n ≤ 7) (h0 : (∀ b, b ≤ n → a ≠ nI b) → Q (nI 0) M) (h1 : ∀ b, b ≤ n → a = nI b → Q (nI 1) M) : w_X7_isFlange a M Q := by
  unfold w_X7_isFlange
  rw [hn]
  refine pw_in (fun c => ⟨zb_0, h0 (fun b hb e => ?_)⟩) (fun c c2 => ?_)
  · rw [e] at c
    rcases c with c | c
    · rw [nI_ltI (by omega) (by omega)] at c; omega
    · rw [nI_ltI (by omega) (by omega)] at c; omega
  · rw [nI_0] at c
    obtain ⟨j, hj, e⟩ := nI_of c
    rw [e, nI_ltI (by omega) hj] at c2
    exact ⟨zb_1, h1 j (by omega) e⟩
theorem nI_inj {a b : Nat} (ha : a < 2 ^ 31) (hb : b < 2 ^ 31) (h : nI a = nI b) : a = b := (nI_eq ha hb).mp h
theorem pw_copyFrom {M : Mem} {r0 r1 : Nat} {G : Nat → Nat} {Q : Mem → Prop} (hr : r0 + 2 < r1 ∨ r1 + 2 < r0) (hS : CS M r1 G) (hz : G 17 ≤ 1) (h : ∀ M', CS M' r0 G → CS M' r1 G → (∀ a, a ≠ r0 → a ≠ r0 + 1 → a ≠ r0 + 2 → M' a = M a) → (∀ j, 5 ≤ j → M' r0 j = M r0 j) → Q M') : w_X4_copyFrom r0 r1 M Q := by
  unfold w_X4_copyFrom
  rintro _ rfl _ rfl _ rfl
  obtain ⟨h0, h1, h2, h3, h4, h5, h6⟩ := hS
  have n0 : r1 ≠ r0 := by omega
  have n1 : r1 + 1 ≠ r0 := by omega
  have n2 : r1 + 2 ≠ r0 := by omega
  have n3 : r1 + 1 ≠ r0 + 1 := by omega
  have n4 : r1 + 2 ≠ r0 + 1 := by omega
  have n5 : r1 + 2 ≠ r0 + 2 := by omega
  have n6 : r1 ≠ r0 + 1 := by omega
  have n7 : r1 ≠ r0 + 2 := by omega
  have n8 : r1 + 1 ≠ r0 + 2 := by omega
  have m1 : r0 + 1 ≠ r0 := by omega
  have m2 : r0 + 2 ≠ r0 := by omega
  have m3 : r0 + 2 ≠ r0 + 1 := by omega
  have m4 : r0 ≠ r0 + 1 := by omega
  have m5 : r0 ≠ r0 + 2 := by omega
  have m6 : r0 + 1 ≠ r0 + 2 := by omega
  refine ⟨?_, ?_⟩
  · simp only [um_n n0, um_s, h3]
    exact zb_le hz
  · rintro _ rfl _ rfl _ rfl _ rfl
    refine h _ ⟨?_, ?_, ?_, ?_, ?_, fun f hf => ?_, fun k hk => ?_⟩ ⟨?_, ?_, ?_, ?_, ?_, fun f hf => ?_, fun k hk => ?_⟩ (fun a a0 a1 a2 => ?_) (fun j hj => ?_)
    · simp [um_a, upd_a, n0, n1, n2, n3, n4, n5, n6, n7, n8, m1, m2, m3, m4, m5, m6, h0]
    · simp [um_a, upd_a, n0, n1, n2, n3, n4, n5, n6, n7, n8, m1, m2, m3, m4, m5, m6]
      simpa using h1
    · simp [um_a, upd_a, n0, n1, n2, n3, n4, n5, n6, n7, n8, m1, m2, m3, m4, m5, m6, h2]
    · simp [um_a, upd_a, n0, n1, n2, n3, n4, n5, n6, n7, n8, m1, m2, m3, m4, m5, m6, h3]
    · simp [um_a, upd_a, n0, n1, n2, n3, n4, n5, n6, n7, n8, m1, m2, m3, m4, m5, m6, h4]
    · simp [um_a, upd_a, n0, n1, n2, n3, n4, n5, n6, n7, n8, m1, m2, m3, m4, m5, m6, va_cpy, hf, h5 f hf]
    · simp [um_a, upd_a, n0, n1, n2, n3, n4, n5, n6, n7, n8, m1, m2, m3, m4, m5, m6, va_cpy, hk, h6 k hk]
    · simp [um_a, upd_a, n0, n1, n2, n3, n4, n5, n6, n7, n8, m1, m2, m3, m4, m5, m6, h0]
    · simp [um_a, upd_a, n0, n1, n2, n3, n4, n5, n6, n7, n8, m1, m2, m3, m4, m5, m6]
      simpa using h1
    · simp [um_a, upd_a, n0, n1, n2, n3, n4, n5, n6, n7, n8, m1, m2, m3, m4, m5, m6, h2]
    · simp [um_a, upd_a, n0, n1, n2, n3, n4, n5, n6, n7, n8, m1, m2, m3, m4, m5, m6, h3]
    · simp [um_a, upd_a, n0, n1, n2, n3, n4, n5, n6, n7, n8, m1, m2, m3, m4, m5, m6, h4]
    · simp [um_a, upd_a, n0, n1, n2, n3, n4, n5, n6, n7, n8, m1, m2, m3, m4, m5, m6, h5 f hf]
    · simp [um_a, upd_a, n0, n1, n2, n3, n4, n5, n6, n7, n8, m1, m2, m3, m4, m5, m6, h6 k hk]
    · simp [um_a, a0, a1, a2]
    · have j0 : ¬ j = 0 := by omega
      have j1 : ¬ j = 1 := by omega
      have j2 : ¬ j = 2 := by omega
      have j3 : ¬ j = 3 := by omega
      have j4 : ¬ j = 4 := by omega
      simp [um_a, upd_a, m1, m2, m3, m4, m5, m6, j0, j1, j2, j3, j4]
