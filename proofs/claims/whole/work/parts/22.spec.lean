/-! what both sides compute, as numbers: the part of a strip that shapes and orders hang on -/
def cor (G : Nat → Nat) : Nat → Nat := fun i => if i = 0 then G 0 else if i ≤ 1 + G 0 ∧ i ≤ 8 then G i else if 9 ≤ i ∧ i < 9 + G 0 then G i else if 18 ≤ i ∧ i ≤ 20 then G i else 0
def CV (S : Nat → Nat) : Prop := (1 ≤ S 0 ∧ S 0 ≤ 7) ∧ (∀ f, f ≤ S 0 → 1 ≤ S (1 + f) ∧ S (1 + f) ≤ 9) ∧ (∀ b, b < S 0 → S (9 + b) ≤ 1) ∧ (1 ≤ S 18 ∧ S 18 ≤ 12) ∧ S 19 ≤ 3 ∧ S 20 ≤ 9
def CC (M : Mem) (r : Nat) (S : Nat → Nat) : Prop := M r 0 = nI (S 0) ∧ (∀ b, b < S 0 → (M r 1 >>> (nI b &&& 31)) &&& nI 1 = nI (if S (9 + b) = 1 then 1 else 0)) ∧ (∀ f, f ≤ S 0 → M (r + 1) f = nI (S (1 + f))) ∧ ∀ k, k < 3 → M (r + 2) k = nI (S (18 + k))
def RC (row : Nat → Int32) (S : Nat → Nat) : Prop := row 0 = nI (S 0) ∧ (∀ b, b < S 0 → row (9 + b) = nI (S (9 + b))) ∧ (∀ f, f ≤ S 0 → row (1 + f) = nI (S (1 + f))) ∧ ∀ k, k < 3 → row (18 + k) = nI (S (18 + k))
theorem cor_0 (G : Nat → Nat) : cor G 0 = G 0 := if_pos rfl
theorem cor_f {G : Nat → Nat} {f : Nat} (h7 : G 0 ≤ 7) (hf : f ≤ G 0) : cor G (1 + f) = G (1 + f) := by
  unfold cor
  rw [if_neg (by omega), if_pos (by omega)]
theorem cor_b {G : Nat → Nat} {b : Nat} (hb : b < G 0) : cor G (9 + b) = G (9 + b) := by
  unfold cor
  rw [if_neg (by omega), if_neg (by omega), if_pos (by omega)]
theorem cor_k {G : Nat → Nat} {k : Nat} (h7 : G 0 ≤ 7) (hk : k < 3) : cor G (18 + k) = G (18 + k) := by
  unfold cor
  rw [if_neg (by omega), if_neg (by omega), if_neg (by omega), if_pos (by omega)]
theorem cor_cor {G : Nat → Nat} : cor (cor G) = cor G := by
  funext i
  have e0 := cor_0 G
  by_cases h0 : i = 0
  · subst h0; rw [cor_0]
  · show (if i = 0 then cor G 0 else if i ≤ 1 + cor G 0 ∧ i ≤ 8 then cor G i else if 9 ≤ i ∧ i < 9 + cor G 0 then cor G i else if 18 ≤ i ∧ i ≤ 20 then cor G i else 0) = cor G i
    rw [e0, if_neg h0]
    by_cases h1 : i ≤ 1 + G 0 ∧ i ≤ 8
    · rw [if_pos h1]
    · rw [if_neg h1]
      by_cases h2 : 9 ≤ i ∧ i < 9 + G 0
      · rw [if_pos h2]
      · rw [if_neg h2]
        by_cases h3 : 18 ≤ i ∧ i ≤ 20
        · rw [if_pos h3]
        · rw [if_neg h3]
          unfold cor
          rw [if_neg h0, if_neg h1, if_neg h2, if_neg h3]
theorem VG.cv {G : Nat → Nat} (h : VG G) : CV (cor G) := by
  obtain ⟨h0, h1, h2, h3, h4, h5, h6, h7, h8⟩ := h
  unfold CV
  rw [cor_0]
  refine ⟨h0, fun f hf => ?_, fun b hb => ?_, ?_, ?_, ?_⟩
  · rw [cor_f h0.2 hf]; exact h1 f hf
  · rw [cor_b hb]; exact h2 b hb
  · rw [show (18 : Nat) = 18 + 0 by rfl, cor_k h0.2 (by decide)]; exact h5
  · rw [show (19 : Nat) = 18 + 1 by rfl, cor_k h0.2 (by decide)]; exact h6
  · rw [show (20 : Nat) = 18 + 2 by rfl, cor_k h0.2 (by decide)]; exact h7
theorem CS.cc {M : Mem} {r : Nat} {G : Nat → Nat} (h : CS M r G) (hV : VG G) : CC M r (cor G) := by
  have hu := fun b (hb : b < 8) => h.up hb
  obtain ⟨h0, -, -, -, -, h5, h6⟩ := h
  have h7 := hV.1.2
  refine ⟨by rw [cor_0]; exact h0, fun b hb => ?_, fun f hf => ?_, fun k hk => ?_⟩
  · rw [cor_0] at hb
    rw [cor_b hb, hu b (by omega)]
    by_cases c : G (9 + b) = 1
    · rw [if_pos ⟨hb, by omega, c⟩, if_pos c]
    · rw [if_neg (fun z => c z.2.2), if_neg c]
  · rw [cor_0] at hf
    rw [cor_f h7 hf]; exact h5 f (by omega)
  · rw [cor_k h7 hk]; exact h6 k (by omega)
theorem RG.rc {row : Nat → Int32} {G : Nat → Nat} (h : RG row G) (hV : VG G) : RC row (cor G) := by
  have h7 := hV.1.2
  refine ⟨by rw [cor_0]; exact h 0 (by decide), fun b hb => ?_, fun f hf => ?_, fun k hk => ?_⟩
  · rw [cor_0] at hb
    rw [cor_b hb]; exact h _ (by omega)
  · rw [cor_0] at hf
    rw [cor_f h7 hf]; exact h _ (by omega)
  · rw [cor_k h7 hk]; exact h _ (by omega)
theorem CC.kept {M M' : Mem} {r : Nat} {S : Nat → Nat} (h : CC M r S) (e0 : M' r = M r) (e1 : M' (r + 1) = M (r + 1)) (e2 : M' (r + 2) = M (r + 2)) : CC M' r S := by
  unfold CC
  rw [e0, e1, e2]
  exact h
-- the shape: start and way of each flange (0 right, 1 up, 2 left, 3 down), with the bend b at the tool, d done, v laid over
def gdx (w : Nat) : Int := if w = 0 then 1 else if w = 2 then -1 else 0
def gdy (w : Nat) : Int := if w = 1 then 1 else if w = 3 then -1 else 0
def gtr (S : Nat → Nat) (d v j : Nat) (right : Bool) : Nat := if d.testBit j then (if decide (S (9 + j) ≠ v) = right then 1 else 3) else 0
def gR (S : Nat → Nat) (b d v : Nat) : Nat → Int × Int × Nat
  | 0 => (0, 0, 0)
  | i + 1 => ((gR S b d v i).1 + (S (1 + (b + 1 + i)) : Int) * gdx (gR S b d v i).2.2, (gR S b d v i).2.1 + (S (1 + (b + 1 + i)) : Int) * gdy (gR S b d v i).2.2, ((gR S b d v i).2.2 + gtr S d v (b + 1 + i) true) % 4)
def gL (S : Nat → Nat) (b d v : Nat) : Nat → Int × Int × Nat
  | 0 => (0, 0, 2)
  | i + 1 => ((gL S b d v i).1 + (S (1 + (b - i)) : Int) * gdx (gL S b d v i).2.2, (gL S b d v i).2.1 + (S (1 + (b - i)) : Int) * gdy (gL S b d v i).2.2, ((gL S b d v i).2.2 + gtr S d v (b - (i + 1)) false) % 4)
def gF (S : Nat → Nat) (b d v f : Nat) : Int × Int × Nat := if b < f then gR S b d v (f - b - 1) else gL S b d v (b - f)
abbrev BX : Type := (Int × Int) × (Int × Int)
/-- the box that holds a flange's points and no others -/
def bxF (S : Nat → Nat) (b d v f : Nat) : BX :=
  ((min (gF S b d v f).1 ((gF S b d v f).1 + (S (1 + f) : Int) * gdx (gF S b d v f).2.2), max (gF S b d v f).1 ((gF S b d v f).1 + (S (1 + f) : Int) * gdx (gF S b d v f).2.2)),
   (min (gF S b d v f).2.1 ((gF S b d v f).2.1 + (S (1 + f) : Int) * gdy (gF S b d v f).2.2), max (gF S b d v f).2.1 ((gF S b d v f).2.1 + (S (1 + f) : Int) * gdy (gF S b d v f).2.2)))
def bxS (S : Nat → Nat) (b d v f : Nat) : BX := if f ≤ b then ((bxF S b d v f).2, (-(bxF S b d v f).1.2, -(bxF S b d v f).1.1)) else bxF S b d v f
def hitB (B : BX) (x1 x2 y1 y2 : Int) : Bool := decide (¬ B.1.2 < x1) && decide (¬ x2 < B.1.1) && decide (¬ y2 < B.2.1) && decide (¬ B.2.2 < y1) && decide (y1 ≤ y2)
def uppB (S : Nat → Nat) (B : BX) : Bool := hitB B 1 1 1 (min 2 (S 18 : Int)) || hitB B 1 (1 + (S 19 : Int)) 3 (S 18 : Int)
def lowB (B : BX) : Bool := hitB B 1 3 (-3) (-1)
def anyF (n : Nat) (p : Nat → Bool) : Bool := (List.range (n + 1)).any p
def selfB (S : Nat → Nat) (b d v : Nat) : Bool := anyF (S 0) (fun f => anyF (S 0) (fun g => decide (f + 2 ≤ g) && hitB (bxS S b d v g) (bxS S b d v f).1.1 (bxS S b d v f).1.2 (bxS S b d v f).2.1 (bxS S b d v f).2.2))
/-- how much is clamped behind the flange in front of the bound j -/
def clF (S : Nat → Nat) (d : Nat) : Nat → Nat → Nat
  | 0, _ => 0
  | k + 1, j => if j < S 0 ∧ d.testBit j = false then S (1 + (j + 1)) + clF S d k (j + 1) else 0
def clm (S : Nat → Nat) (b d : Nat) : Nat := S (1 + (b + 1)) + clF S d 8 (b + 1)
def rsn (S : Nat → Nat) (b d v : Nat) : Nat :=
  if d.testBit b then 1 else if S (9 + b) = v then 2 else if clm S b d < S 20 then 3
  else if anyF (S 0) (fun f => uppB S (bxF S b d v f) || uppB S (bxS S b d v f)) then 4
  else if anyF (S 0) (fun f => lowB (bxF S b d v f) || lowB (bxS S b d v f)) then 5
  else if selfB S b d v then 6 else 0
-- the orders: how many go on from a set, and which bends lead on
def okS (S : Nat → Nat) (b d : Nat) : Bool := decide (rsn S b d (1 - S (9 + b)) = 0)
def smB (f : Nat → Nat) : Nat → Nat
  | 0 => 0
  | n + 1 => smB f n + f n
def wN (S : Nat → Nat) : Nat → Nat → Nat
  | 0, _ => 0
  | k + 1, d => (if d = 2 ^ S 0 - 1 then 1 else 0) + smB (fun b => if okS S b d then wN S k (d ||| 2 ^ b) else 0) (S 0)
def wS (S : Nat → Nat) (d : Nat) : Nat := wN S 200 d
def bsB (f : Nat → Bool) : Nat → Nat
  | 0 => 0
  | n + 1 => if f n then bsB f n ||| 2 ^ n else bsB f n
def ldS (S : Nat → Nat) (d : Nat) : Nat := bsB (fun b => okS S b d && decide (0 < wS S (d ||| 2 ^ b))) (S 0)
def PLN (M : Mem) : Prop := M 31 2 = nI 0 ∨ (M 31 2 = nI 1 ∧ ∃ S, CV S ∧ cor S = S ∧ CC M 40 S ∧ ∀ d, d < 2 ^ S 0 → M 43 d = nI (wS S d) ∧ M 44 d = nI (ldS S d))
theorem PLN.kept {M M' : Mem} (h : PLN M) (e1 : M' 31 = M 31) (e2 : M' 40 = M 40) (e3 : M' 41 = M 41) (e4 : M' 42 = M 42) (e5 : M' 43 = M 43) (e6 : M' 44 = M 44) : PLN M' := by
  unfold PLN
  rw [e1, e5, e6]
  rcases h with h | ⟨h, S, h1, h2, h3, h4⟩
  · exact Or.inl h
  · exact Or.inr ⟨h, S, h1, h2, h3.kept e2 e3 e4, h4⟩
def TX (MC MM : Mem) : Prop := ∃ t, t ≤ 60 ∧ MC 21 0 = nI t ∧ MM 0 6 = nI t ∧ ∀ i, i < t → ∃ c, c < 65536 ∧ MC 22 i = nI c ∧ MM 4 i = nI c
def KP (MC MM : Mem) : Prop := (MC 0 2 = nI 0 ∧ MM 0 4 = nI 0) ∨ (MC 0 2 = nI 1 ∧ MM 0 4 = nI 1 ∧ ∃ G, VG G ∧ CS MC 4 G ∧ RG (MM 3) G)
def HI (MC MM : Mem) : Prop := ∃ k H, HC MC k H ∧ HM MM k H ∧ ∀ j, j < k → VG (H j)
def NW (MC MM : Mem) (G : Nat → Nat) : Prop := VG G ∧ CS MC 1 G ∧ RG (MM 1) G
/-- both sides are in the same state -/
def REL (MC MM : Mem) : Prop := (∃ G, NW MC MM G) ∧ HI MC MM ∧ KP MC MM ∧ TX MC MM ∧ PLN MC
theorem HC.kept {M M' : Mem} {k : Nat} {H : Nat → Nat → Nat} (h : HC M k H) (e : ∀ a, 7 ≤ a → a ≤ 20 → M' a = M a) : HC M' k H := by
  obtain ⟨h1, h2, q, h3, h4, h5⟩ := h
  refine ⟨h1, by rw [e 7 (by decide) (by decide)]; exact h2, q, fun j hj => ⟨(h3 j hj).1, by rw [e 8 (by decide) (by decide)]; exact (h3 j hj).2⟩, h4, fun j hj => ?_⟩
  have hb := isR_lt (h3 j (by omega)).1
  exact (h5 j hj).kept (e _ (by omega) (by omega)) (e _ (by omega) (by omega)) (e _ (by omega) (by omega))
