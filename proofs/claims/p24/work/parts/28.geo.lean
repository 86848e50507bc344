/-! the class's shape: boxes -/
def iI (x : Int) : Int32 := Int32.ofInt x
theorem iI_nat (n : Nat) : iI (n : Int) = nI n := Int32.ofInt_eq_ofNat
theorem iI_add (a b : Int) : iI a + iI b = iI (a + b) := (Int32.ofInt_add a b).symm
theorem iI_mul (a b : Int) : iI a * iI b = iI (a * b) := (Int32.ofInt_mul a b).symm
theorem iI_neg (a : Int) : -iI a = iI (-a) := (Int32.ofInt_neg a).symm
theorem iI_toInt {a : Int} (h : -10000 ≤ a ∧ a ≤ 10000) : (iI a).toInt = a := Int32.toInt_ofInt_of_le (by omega) (by omega)
theorem iI_le {a b : Int} (ha : -10000 ≤ a ∧ a ≤ 10000) (hb : -10000 ≤ b ∧ b ≤ 10000) : iI a ≤ iI b ↔ a ≤ b := by
  rw [Int32.le_iff_toInt_le, iI_toInt ha, iI_toInt hb]
theorem iI_lt {a b : Int} (ha : -10000 ≤ a ∧ a ≤ 10000) (hb : -10000 ≤ b ∧ b ≤ 10000) : iI a < iI b ↔ a < b := by
  rw [Int32.lt_iff_toInt_lt, iI_toInt ha, iI_toInt hb]
theorem iI_eq {a b : Int} (ha : -10000 ≤ a ∧ a ≤ 10000) (hb : -10000 ≤ b ∧ b ≤ 10000) : iI a = iI b ↔ a = b :=
  ⟨fun h => by rw [← iI_toInt ha, ← iI_toInt hb, h], fun h => by rw [h]⟩
theorem iI_0 : iI 0 = 0 := by decide
theorem gd_turn : ∀ w, w < 4 → gdx ((w + 1) % 4) = -gdy w ∧ gdy ((w + 1) % 4) = gdx w ∧ gdx ((w + 3) % 4) = gdy w ∧ gdy ((w + 3) % 4) = -gdx w := by decide
theorem gd_in : ∀ w, (gdx w = 0 ∨ gdx w = 1 ∨ gdx w = -1) ∧ (gdy w = 0 ∨ gdy w = 1 ∨ gdy w = -1) := by
  intro w
  unfold gdx gdy
  refine ⟨?_, ?_⟩ <;> (split <;> (try split) <;> simp)
theorem gR_w (S : Nat → Nat) (b d v : Nat) : ∀ i, (gR S b d v i).2.2 < 4
  | 0 => (show (0 : Nat) < 4 by decide)
  | i + 1 => Nat.mod_lt _ (by decide)
theorem gL_w (S : Nat → Nat) (b d v : Nat) : ∀ i, (gL S b d v i).2.2 < 4
  | 0 => (show (2 : Nat) < 4 by decide)
  | i + 1 => Nat.mod_lt _ (by decide)
theorem gR_bd {S : Nat → Nat} (hS : CV S) (b d v : Nat) : ∀ i, b + i ≤ S 0 → (-(9 * i : Int) ≤ (gR S b d v i).1 ∧ (gR S b d v i).1 ≤ 9 * i) ∧ (-(9 * i : Int) ≤ (gR S b d v i).2.1 ∧ (gR S b d v i).2.1 ≤ 9 * i) := by
  intro i
  induction i with
  | zero => intro _; simp [gR]
  | succ i ih =>
    intro hi
    have h := ih (by omega)
    have hl := hS.2.1 (b + 1 + i) (by omega)
    have g := gd_in (gR S b d v i).2.2
    have e1 : (gR S b d v (i + 1)).1 = (gR S b d v i).1 + (S (1 + (b + 1 + i)) : Int) * gdx (gR S b d v i).2.2 := rfl
    have e2 : (gR S b d v (i + 1)).2.1 = (gR S b d v i).2.1 + (S (1 + (b + 1 + i)) : Int) * gdy (gR S b d v i).2.2 := rfl
    rw [e1, e2]
    obtain ⟨g1, g2⟩ := g
    refine ⟨?_, ?_⟩
    · rcases g1 with g1 | g1 | g1 <;> (rw [g1]; omega)
    · rcases g2 with g2 | g2 | g2 <;> (rw [g2]; omega)
theorem gL_bd {S : Nat → Nat} (hS : CV S) (b d v : Nat) (hb : b < S 0) : ∀ i, i ≤ b + 1 → (-(9 * i : Int) ≤ (gL S b d v i).1 ∧ (gL S b d v i).1 ≤ 9 * i) ∧ (-(9 * i : Int) ≤ (gL S b d v i).2.1 ∧ (gL S b d v i).2.1 ≤ 9 * i) := by
  intro i
  induction i with
  | zero => intro _; simp [gL]
  | succ i ih =>
    intro hi
    have h := ih (by omega)
    have hl := hS.2.1 (b - i) (by omega)
    have g := gd_in (gL S b d v i).2.2
    have e1 : (gL S b d v (i + 1)).1 = (gL S b d v i).1 + (S (1 + (b - i)) : Int) * gdx (gL S b d v i).2.2 := rfl
    have e2 : (gL S b d v (i + 1)).2.1 = (gL S b d v i).2.1 + (S (1 + (b - i)) : Int) * gdy (gL S b d v i).2.2 := rfl
    rw [e1, e2]
    obtain ⟨g1, g2⟩ := g
    refine ⟨?_, ?_⟩
    · rcases g1 with g1 | g1 | g1 <;> (rw [g1]; omega)
    · rcases g2 with g2 | g2 | g2 <;> (rw [g2]; omega)
theorem gF_bd {S : Nat → Nat} (hS : CV S) {b d v f : Nat} (hb : b < S 0) (hf : f ≤ S 0) : (-63 ≤ (gF S b d v f).1 ∧ (gF S b d v f).1 ≤ 63) ∧ (-63 ≤ (gF S b d v f).2.1 ∧ (gF S b d v f).2.1 ≤ 63) := by
  have h7 := hS.1.2
  unfold gF
  by_cases c : b < f
  · rw [if_pos c]
    have := gR_bd hS b d v (f - b - 1) (by omega)
    omega
  · rw [if_neg c]
    have := gL_bd hS b d v hb (b - f) (by omega)
    omega
/-- a flange's end, farther from the tool -/
def gE (S : Nat → Nat) (b d v f : Nat) : Int × Int := ((gF S b d v f).1 + (S (1 + f) : Int) * gdx (gF S b d v f).2.2, (gF S b d v f).2.1 + (S (1 + f) : Int) * gdy (gF S b d v f).2.2)
theorem gE_bd {S : Nat → Nat} (hS : CV S) {b d v f : Nat} (hb : b < S 0) (hf : f ≤ S 0) : (-72 ≤ (gE S b d v f).1 ∧ (gE S b d v f).1 ≤ 72) ∧ (-72 ≤ (gE S b d v f).2 ∧ (gE S b d v f).2 ≤ 72) := by
  have h := gF_bd hS (d := d) (v := v) hb hf
  have hl := hS.2.1 f hf
  obtain ⟨g1, g2⟩ := gd_in (gF S b d v f).2.2
  unfold gE
  refine ⟨?_, ?_⟩
  · rcases g1 with g1 | g1 | g1 <;> (rw [g1]; omega)
  · rcases g2 with g2 | g2 | g2 <;> (rw [g2]; omega)
def BXM (M : Mem) (h n : Nat) (B : Nat → BX) : Prop := M h 0 = nI (n + 1) ∧ ∀ f, f ≤ n → M (h + 1) f = iI (B f).1.1 ∧ M (h + 2) f = iI (B f).1.2 ∧ M (h + 3) f = iI (B f).2.1 ∧ M (h + 4) f = iI (B f).2.2
def BBd (n : Nat) (B : Nat → BX) : Prop := ∀ f, f ≤ n → (-72 ≤ (B f).1.1 ∧ (B f).1.1 ≤ 72) ∧ (-72 ≤ (B f).1.2 ∧ (B f).1.2 ≤ 72) ∧ (-72 ≤ (B f).2.1 ∧ (B f).2.1 ≤ 72) ∧ (-72 ≤ (B f).2.2 ∧ (B f).2.2 ≤ 72)
theorem bxF_bd {S : Nat → Nat} (hS : CV S) {b d v : Nat} (hb : b < S 0) : BBd (S 0) (bxF S b d v) := by
  intro f hf
  have h1 := gF_bd hS (d := d) (v := v) hb hf
  have h2 := gE_bd hS (d := d) (v := v) hb hf
  unfold gE at h2
  unfold bxF
  dsimp only at h2 ⊢
  omega
theorem bxS_bd {S : Nat → Nat} (hS : CV S) {b d v : Nat} (hb : b < S 0) : BBd (S 0) (bxS S b d v) := by
  intro f hf
  have h1 := bxF_bd hS (d := d) (v := v) hb f hf
  unfold bxS
  split
  · dsimp only; omega
  · exact h1
theorem cstore {c vp : Prop} {a b : Int32} {P : Mem → Prop} {M : Mem} {k f : Nat} (hv : vp) (h : ∀ v, (c → v = a) → (¬ c → v = b) → ∀ M', M' = um M k (upd (M k) f v) → P M') : (c → (vp ∧ ∀ M8 : Mem, M8 = um M k (upd (M k) f a) → P M8)) ∧ (¬ c → (vp ∧ ∀ M8 : Mem, M8 = um M k (upd (M k) f b) → P M8)) :=
  ⟨fun hc => ⟨hv, h a (fun _ => rfl) (fun z => absurd hc z)⟩, fun hc => ⟨hv, h b (fun z => absurd z hc) (fun _ => rfl)⟩⟩
theorem pw_draw {M : Mem} {h f L : Nat} {x y sx sy : Int} {Q : Mem → Prop} (hf : f < 8) (hL : L ≤ 9) (hx : M h 1 = iI x) (hy : M h 2 = iI y) (hsx : M h 3 = iI sx) (hsy : M h 4 = iI sy) (bx : sx = 0 ∨ sx = 1 ∨ sx = -1) (by_ : sy = 0 ∨ sy = 1 ∨ sy = -1)
    (hQ : ∀ M' : Mem, (∀ a, a < h ∨ h + 6 < a → M' a = M a) → (∀ s, s ≠ 1 → s ≠ 2 → M' h s = M h s) → M' h 1 = iI (x + (L : Int) * sx) → M' h 2 = iI (y + (L : Int) * sy) →
      (∀ i g, 1 ≤ i → i ≤ 6 → g ≠ f → M' (h + i) g = M (h + i) g) → M' (h + 1) f = iI (min x (x + (L : Int) * sx)) → M' (h + 2) f = iI (max x (x + (L : Int) * sx)) → M' (h + 3) f = iI (min y (y + (L : Int) * sy)) → M' (h + 4) f = iI (max y (y + (L : Int) * sy)) → M' (h + 5) f = iI (x + (L : Int) * sx) → M' (h + 6) f = iI (y + (L : Int) * sy) → Q M') : w_X3_draw h (nI f) (nI L) M Q := by
  unfold w_X3_draw
  have hv : vp_in (nI f) 8 := vp_in_nI hf (by decide)
  rw [nI_clamp (by omega)]
  refine ⟨fun c => absurd c (nI_neg (by omega)), fun _ => ⟨fun _ => ?_, fun c => ?_⟩⟩
  · rintro _ rfl _ rfl M5 h5 M6 h6
    refine cstore hv (fun v1 a1 b1 M7 h7 => ?_)
    refine cstore hv (fun v2 a2 b2 M8 h8 => ?_)
    refine cstore hv (fun v3 a3 b3 M9 h9 => ?_)
    refine cstore hv (fun v4 a4 b4 M10 h10 => ?_)
    refine ⟨hv, fun M11 h11 => ⟨hv, fun M12 h12 => ?_⟩⟩
    have e6x : M6 h 1 = iI (x + (L : Int) * sx) := by
      rw [h6, um_s, upd_n (by decide), h5, um_s, upd_s, hx, hsx, ← iI_nat, iI_mul, iI_add, Int.mul_comm]
    have e6y : M6 h 2 = iI (y + (L : Int) * sy) := by
      rw [h6, um_s, upd_s, h5, um_s, upd_n (by decide), upd_n (by decide), hy, hsy, ← iI_nat, iI_mul, iI_add, Int.mul_comm]
    have e6s : ∀ s, s ≠ 1 → s ≠ 2 → M6 h s = M h s := fun s s1 s2 => by rw [h6, um_s, upd_n s2, h5, um_s, upd_n s1]
    have e6a : ∀ a, a ≠ h → M6 a = M a := fun a ha => by rw [h6, um_n ha, h5, um_n ha]
    have n1 : h ≠ h + 1 := by omega
    have n2 : h ≠ h + 2 := by omega
    have n3 : h ≠ h + 3 := by omega
    have n4 : h ≠ h + 4 := by omega
    have n5 : h ≠ h + 5 := by omega
    have n6 : h ≠ h + 6 := by omega
    have e7 : M7 h = M6 h := by rw [h7, um_n n1]
    have e8 : M8 h = M6 h := by rw [h8, um_n n2, e7]
    have e9 : M9 h = M6 h := by rw [h9, um_n n3, e8]
    have e10 : M10 h = M6 h := by rw [h10, um_n n4, e9]
    have e11 : M11 h = M6 h := by rw [h11, um_n n5, e10]
    have e12 : M12 h = M6 h := by rw [h12, um_n n6, e11]
    have s3 : M6 h 3 = iI sx := by rw [e6s 3 (by decide) (by decide)]; exact hsx
    have s4 : M6 h 4 = iI sy := by rw [e6s 4 (by decide) (by decide)]; exact hsy
    have px : (0 ≤ iI sx ↔ 0 ≤ sx) := by rw [← iI_0]; exact iI_le (by omega) (by omega)
    have py : (0 ≤ iI sy ↔ 0 ≤ sy) := by rw [← iI_0]; exact iI_le (by omega) (by omega)
    rw [s3] at a1 b1
    rw [e7, s3] at a2 b2
    rw [e8, s4] at a3 b3
    rw [e9, s4] at a4 b4
    rw [px] at a1 b1 a2 b2
    rw [py] at a3 b3 a4 b4
    have w1 : v1 = iI (min x (x + (L : Int) * sx)) := by
      by_cases c : 0 ≤ sx
      · rw [a1 c, hx]; congr 1; rcases bx with q | q | q <;> (subst q; omega)
      · rw [b1 c, e6x]; congr 1; rcases bx with q | q | q <;> (subst q; omega)
    have w2 : v2 = iI (max x (x + (L : Int) * sx)) := by
      by_cases c : 0 ≤ sx
      · rw [a2 c, e6x]; congr 1; rcases bx with q | q | q <;> (subst q; omega)
      · rw [b2 c, hx]; congr 1; rcases bx with q | q | q <;> (subst q; omega)
    have w3 : v3 = iI (min y (y + (L : Int) * sy)) := by
      by_cases c : 0 ≤ sy
      · rw [a3 c, hy]; congr 1; rcases by_ with q | q | q <;> (subst q; omega)
      · rw [b3 c, e6y]; congr 1; rcases by_ with q | q | q <;> (subst q; omega)
    have w4 : v4 = iI (max y (y + (L : Int) * sy)) := by
      by_cases c : 0 ≤ sy
      · rw [a4 c, e6y]; congr 1; rcases by_ with q | q | q <;> (subst q; omega)
      · rw [b4 c, hy]; congr 1; rcases by_ with q | q | q <;> (subst q; omega)
    rw [e10, e6x] at h11
    rw [e11, e6y] at h12
    have far : ∀ a, a ≠ h + 1 → a ≠ h + 2 → a ≠ h + 3 → a ≠ h + 4 → a ≠ h + 5 → a ≠ h + 6 → M12 a = M6 a := fun a q1 q2 q3 q4 q5 q6 => by rw [h12, um_n q6, h11, um_n q5, h10, um_n q4, h9, um_n q3, h8, um_n q2, h7, um_n q1]
    have m : ∀ i j : Nat, i ≠ j → h + i ≠ h + j := fun i j q => by omega
    refine hQ M12 (fun a ha => ?_) (fun s q1 q2 => ?_) ?_ ?_ (fun i g i1 i6 hg => ?_) ?_ ?_ ?_ ?_ ?_ ?_
    · rw [far a (by omega) (by omega) (by omega) (by omega) (by omega) (by omega)]; exact e6a a (by omega)
    · rw [e12]; exact e6s s q1 q2
    · rw [e12]; exact e6x
    · rw [e12]; exact e6y
    · have ea : M6 (h + i) = M (h + i) := e6a _ (by omega)
      rw [← ea]
      rcases (show i = 1 ∨ i = 2 ∨ i = 3 ∨ i = 4 ∨ i = 5 ∨ i = 6 by omega) with q | q | q | q | q | q <;> subst q
      · rw [h12, um_n (m _ _ (by decide)), h11, um_n (m _ _ (by decide)), h10, um_n (m _ _ (by decide)), h9, um_n (m _ _ (by decide)), h8, um_n (m _ _ (by decide)), h7, um_s, upd_n hg]
      · rw [h12, um_n (m _ _ (by decide)), h11, um_n (m _ _ (by decide)), h10, um_n (m _ _ (by decide)), h9, um_n (m _ _ (by decide)), h8, um_s, upd_n hg, h7, um_n (m _ _ (by decide))]
      · rw [h12, um_n (m _ _ (by decide)), h11, um_n (m _ _ (by decide)), h10, um_n (m _ _ (by decide)), h9, um_s, upd_n hg, h8, um_n (m _ _ (by decide)), h7, um_n (m _ _ (by decide))]
      · rw [h12, um_n (m _ _ (by decide)), h11, um_n (m _ _ (by decide)), h10, um_s, upd_n hg, h9, um_n (m _ _ (by decide)), h8, um_n (m _ _ (by decide)), h7, um_n (m _ _ (by decide))]
      · rw [h12, um_n (m _ _ (by decide)), h11, um_s, upd_n hg, h10, um_n (m _ _ (by decide)), h9, um_n (m _ _ (by decide)), h8, um_n (m _ _ (by decide)), h7, um_n (m _ _ (by decide))]
      · rw [h12, um_s, upd_n hg, h11, um_n (m _ _ (by decide)), h10, um_n (m _ _ (by decide)), h9, um_n (m _ _ (by decide)), h8, um_n (m _ _ (by decide)), h7, um_n (m _ _ (by decide))]
    · rw [h12, um_n (m _ _ (by decide)), h11, um_n (m _ _ (by decide)), h10, um_n (m _ _ (by decide)), h9, um_n (m _ _ (by decide)), h8, um_n (m _ _ (by decide)), h7, um_s, upd_s, w1]
    · rw [h12, um_n (m _ _ (by decide)), h11, um_n (m _ _ (by decide)), h10, um_n (m _ _ (by decide)), h9, um_n (m _ _ (by decide)), h8, um_s, upd_s, w2]
    · rw [h12, um_n (m _ _ (by decide)), h11, um_n (m _ _ (by decide)), h10, um_n (m _ _ (by decide)), h9, um_s, upd_s, w3]
    · rw [h12, um_n (m _ _ (by decide)), h11, um_n (m _ _ (by decide)), h10, um_s, upd_s, w4]
    · rw [h12, um_n (m _ _ (by decide)), h11, um_s, upd_s]
    · rw [h12, um_s, upd_s]
  · rw [nI_ltI (by omega) (by decide)] at c; omega
theorem pw_turnAt {M : Mem} {h j bent cc w : Nat} {Q : Mem → Prop} (hj : j < 8) (hb : bent < 128) (hc : cc ≤ 1) (hw : w < 4) (h3 : M h 3 = iI (gdx w)) (h4 : M h 4 = iI (gdy w))
    (hQ : ∀ (M' : Mem) (w' : Nat), w' = (if bent.testBit j then (w + (if cc = 1 then 1 else 3)) % 4 else w) → w' < 4 → (∀ a, a ≠ h → M' a = M a) → (∀ s, s ≠ 3 → s ≠ 4 → M' h s = M h s) → M' h 3 = iI (gdx w') → M' h 4 = iI (gdy w') → Q M') : w_X3_turnAt h (nI j) (nI bent) (nI cc) M Q := by
  unfold w_X3_turnAt
  rw [bit_get bent hb j hj]
  have t := gd_turn w hw
  by_cases c : bent.testBit j = true
  · rw [if_pos c]
    refine ⟨fun _ => ?_, fun z => absurd z (by decide)⟩
    rintro _ rfl
    refine ⟨fun z => ?_, fun z => ?_⟩
    · have e0 : cc = 0 := (nI_z (by omega)).mp z
      rintro M4 hM4
      refine ⟨fun _ => ?_, fun y => absurd z y⟩
      rintro M6 hM6
      refine hQ M6 _ rfl ?_ (fun a ha => by rw [hM6, um_n ha, hM4, um_n ha]) (fun s s3 s4 => by rw [hM6, um_s, upd_n s4, hM4, um_s, upd_n s3]) ?_ ?_
      · rw [if_pos c]; exact Nat.mod_lt _ (by decide)
      · rw [if_pos c, if_neg (by omega), t.2.2.1, hM6, um_s, upd_n (by decide), hM4, um_s, upd_s, h4]
      · rw [if_pos c, if_neg (by omega), t.2.2.2, hM6, um_s, upd_s, h3, iI_neg]
    · have e0 : cc = 1 := by
        rcases (show cc = 0 ∨ cc = 1 by omega) with y | y
        · rw [y] at z; exact absurd rfl z
        · exact y
      rintro M4 hM4
      refine ⟨fun y => absurd y z, fun _ => ?_⟩
      rintro M6 hM6
      refine hQ M6 _ rfl ?_ (fun a ha => by rw [hM6, um_n ha, hM4, um_n ha]) (fun s s3 s4 => by rw [hM6, um_s, upd_n s4, hM4, um_s, upd_n s3]) ?_ ?_
      · rw [if_pos c]; exact Nat.mod_lt _ (by decide)
      · rw [if_pos c, if_pos e0, t.1, hM6, um_s, upd_n (by decide), hM4, um_s, upd_s, h4, iI_neg]
      · rw [if_pos c, if_pos e0, t.2.1, hM6, um_s, upd_s, h3]
  · rw [if_neg c]
    refine ⟨fun z => absurd rfl z, fun _ => ?_⟩
    exact hQ M w (by rw [if_neg c]) hw (fun _ _ => rfl) (fun _ _ _ => rfl) h3 h4
/-- what the laying leaves behind -/
def LAID (M M' : Mem) (h : Nat) (S : Nat → Nat) (b d v : Nat) : Prop := BXM M' h (S 0) (bxF S b d v) ∧ (∀ f, f ≤ S 0 → M' (h + 5) f = iI (gE S b d v f).1 ∧ M' (h + 6) f = iI (gE S b d v f).2) ∧ ∀ a, a < h ∨ h + 6 < a → M' a = M a
def DRAWN (M : Mem) (h : Nat) (S : Nat → Nat) (b d v f : Nat) : Prop := (M (h + 1) f = iI (bxF S b d v f).1.1 ∧ M (h + 2) f = iI (bxF S b d v f).1.2 ∧ M (h + 3) f = iI (bxF S b d v f).2.1 ∧ M (h + 4) f = iI (bxF S b d v f).2.2) ∧ M (h + 5) f = iI (gE S b d v f).1 ∧ M (h + 6) f = iI (gE S b d v f).2
theorem DRAWN.kept {M M' : Mem} {h : Nat} {S : Nat → Nat} {b d v f : Nat} (hD : DRAWN M h S b d v f) (e : ∀ i, 1 ≤ i → i ≤ 6 → M' (h + i) f = M (h + i) f) : DRAWN M' h S b d v f := by
  unfold DRAWN
  rw [e 1 (by decide) (by decide), e 2 (by decide) (by decide), e 3 (by decide) (by decide), e 4 (by decide) (by decide), e 5 (by decide) (by decide), e 6 (by decide) (by decide)]
  exact hD
theorem pw_startAt {M : Mem} {h : Nat} {a : Int32} {Q : Mem → Prop} (hQ : ∀ M' : Mem, (∀ c, c ≠ h → M' c = M c) → M' h 0 = M h 0 → M' h 1 = iI 0 → M' h 2 = iI 0 → M' h 3 = a → M' h 4 = iI 0 → Q M') : w_X3_startAtTool h a M Q := by
  unfold w_X3_startAtTool
  rintro M1 h1 M2 h2 M3 h3 M4 h4
  refine hQ M4 (fun c hc => by rw [h4, um_n hc, h3, um_n hc, h2, um_n hc, h1, um_n hc]) ?_ ?_ ?_ ?_ ?_
  · rw [h4, um_s, upd_n (by decide), h3, um_s, upd_n (by decide), h2, um_s, upd_n (by decide), h1, um_s, upd_n (by decide)]
  · rw [h4, um_s, upd_n (by decide), h3, um_s, upd_n (by decide), h2, um_s, upd_n (by decide), h1, um_s, upd_s]; rfl
  · rw [h4, um_s, upd_n (by decide), h3, um_s, upd_n (by decide), h2, um_s, upd_s]; rfl
  · rw [h4, um_s, upd_n (by decide), h3, um_s, upd_s]
  · rw [h4, um_s, upd_s]; rfl
theorem pw_isUpC {M : Mem} {r b : Nat} {S : Nat → Nat} {Q : Int32 → Mem → Prop} (hC : CC M r S) (hS : CV S) (hb : b < S 0) (h : Q (nI (S (9 + b))) M) : w_X4_isUp r (nI b) M Q := by
  unfold w_X4_isUp
  have h1 := hS.2.2.1 b hb
  rw [hC.2.1 b hb, show (if S (9 + b) = 1 then 1 else 0) = S (9 + b) by split <;> omega]
  refine ⟨fun c => ?_, fun c => ?_⟩
  · have : S (9 + b) = 0 := by
      rcases (show S (9 + b) = 0 ∨ S (9 + b) = 1 by omega) with y | y
      · exact y
      · rw [y] at c; exact absurd rfl c
    rw [this] at h
    exact h
  · have : S (9 + b) = 1 := nI_inj (by omega) (by decide) c
    rw [this] at h
    exact h
theorem gF_R {S : Nat → Nat} {b d v i : Nat} : gF S b d v (b + 1 + i) = gR S b d v i := by
  unfold gF
  rw [if_pos (by omega), show b + 1 + i - b - 1 = i by omega]
theorem gF_L {S : Nat → Nat} {b d v i : Nat} (h : i ≤ b) : gF S b d v (b - i) = gL S b d v i := by
  unfold gF
  rw [if_neg (by omega), show b - (b - i) = i by omega]
theorem lq_lay34 {M0 : Mem} {h r b d v bent : Nat} {S : Nat → Nat} {K : Int32 → Mem → Prop} (hr : r + 2 < h ∨ h + 6 < r) (hS : CV S) (hC : CC M0 r S) (hb : b < S 0) (hbent : bent < 128) (hbt : ∀ j, j < 7 → bent.testBit j = (d.testBit j && !decide (j = b))) (hv : v ≤ 1)
    (hK : ∀ M : Mem, (∀ a, a < h ∨ h + 6 < a → M a = M0 a) → M h 0 = nI (S 0 + 1) → (∀ f, b < f → f ≤ S 0 → DRAWN M h S b d v f) → K (nI (S 0 + 1)) M) :
    ∀ (n i : Nat) (w : Nat) (M : Mem), b + 1 + i ≤ S 0 + 1 → S 0 + 2 ≤ n + (b + 1 + i) → (∀ a, a < h ∨ h + 6 < a → M a = M0 a) → M h 0 = nI (S 0 + 1) → w < 4 → (b + 1 + i ≤ S 0 → (if bent.testBit (b + i) then (w + (if S (9 + (b + i)) ≠ v then 1 else 3)) % 4 else w) = (gR S b d v i).2.2) → M h 1 = iI (gR S b d v i).1 → M h 2 = iI (gR S b d v i).2.1 → M h 3 = iI (gdx w) → M h 4 = iI (gdy w) → (∀ f, b < f → f < b + 1 + i → DRAWN M h S b d v f) → w_X3_layFlat_34 h r n (nI b) (nI v) (nI bent) (nI (b + 1 + i)) M K := by
  intro n
  have h7 := hS.1.2
  induction n with
  | zero => intro i w M h1 h2; omega
  | succ n ih =>
    intro i w M h1 h2 hM h0 hw hturn hx hy hsx hsy hD
    unfold w_X3_layFlat_34
    rw [h0]
    refine ⟨fun z => ?_, fun z => ?_⟩
    · rw [nI_leI (by omega) (by omega)] at z
      have e : b + 1 + i = S 0 + 1 := by omega
      rw [e]
      exact hK M hM h0 (fun f f1 f2 => hD f f1 (by omega))
    · rw [nI_leI (by omega) (by omega)] at z
      have hf : b + 1 + i ≤ S 0 := by omega
      have hCM : CC M r S := hC.kept (hM r (by omega)) (hM _ (by omega)) (hM _ (by omega))
      rw [pk_sub (by omega), show b + 1 + i - 1 = b + i by omega]
      refine pw_isUpC hCM hS (by omega) ?_
      have hu := hS.2.2.1 (b + i) (by omega)
      have body : ∀ cc : Nat, cc ≤ 1 → (cc = 1 ↔ S (9 + (b + i)) ≠ v) → w_X3_turnAt h (nI (b + i)) (nI bent) (nI cc) M (fun M10 => w_X4_lengthAt r (nI (b + 1 + i)) M10 (fun v12 M11 => w_X3_draw h (nI (b + 1 + i)) v12 M11 (fun M13 => ∀ y14 : Int32, y14 = nI (b + 1 + i) + (nI 1) → w_X3_layFlat_34 h r n (nI b) (nI v) (nI bent) y14 M13 K))) := by
        intro cc hcc hiff
        refine pw_turnAt (w := w) (by omega) hbent hcc hw hsx hsy (fun M1 w1 e1 w14 f1 f2 g3 g4 => ?_)
        have ew1 : w1 = (gR S b d v i).2.2 := by
          rw [e1, ← hturn hf]
          by_cases q : S (9 + (b + i)) ≠ v
          · rw [if_pos q, if_pos (hiff.mpr q)]
          · rw [if_neg q, if_neg (fun y => q (hiff.mp y))]
        subst ew1
        refine pw_lengthAt (by omega) ?_
        have eL : M1 (r + 1) (b + 1 + i) = nI (S (1 + (b + 1 + i))) := by rw [f1 _ (by omega)]; exact hCM.2.2.1 _ hf
        rw [eL]
        have hl := hS.2.1 _ hf
        obtain ⟨gx, gy⟩ := gd_in (gR S b d v i).2.2
        have k1 : M1 h 1 = iI (gR S b d v i).1 := by rw [f2 1 (by decide) (by decide)]; exact hx
        have k2 : M1 h 2 = iI (gR S b d v i).2.1 := by rw [f2 2 (by decide) (by decide)]; exact hy
        refine pw_draw (by omega) (by omega) k1 k2 g3 g4 gx gy (fun M2 a1 a2 a3 a4 a5 a6 a7 a8 a9 a10 a11 => ?_)
        rintro _ rfl
        rw [nI_add, show b + 1 + i + 1 = b + 1 + (i + 1) by omega]
        refine ih (i + 1) (gR S b d v i).2.2 M2 (by omega) (by omega) (fun a ha => by rw [a1 a ha, f1 a (by omega)]; exact hM a ha) (by rw [a2 0 (by decide) (by decide), f2 0 (by decide) (by decide)]; exact h0) w14 (fun hle => ?_) a3 a4 (by rw [a2 3 (by decide) (by decide)]; exact g3) (by rw [a2 4 (by decide) (by decide)]; exact g4) (fun f c1 c2 => ?_)
        · show _ = ((gR S b d v i).2.2 + gtr S d v (b + 1 + i) true) % 4
          rw [hbt _ (by omega)]
          unfold gtr
          rw [show b + (i + 1) = b + 1 + i by omega]
          by_cases q : d.testBit (b + 1 + i) = true
          · rw [q]
            have : ¬ (b + 1 + i = b) := by omega
            simp only [this, decide_false, Bool.not_false, Bool.and_true, if_true]
            congr 2
            by_cases p : S (9 + (b + 1 + i)) ≠ v
            · rw [if_pos p, if_pos (by simpa using p)]
            · rw [if_neg p, if_neg (by simpa using p)]
          · have q' : d.testBit (b + 1 + i) = false := by simpa using q
            rw [q']
            simp only [Bool.false_and, if_neg Bool.false_ne_true, Nat.add_zero]
            exact (Nat.mod_eq_of_lt w14).symm
        · by_cases q : f = b + 1 + i
          · subst q
            unfold DRAWN bxF gE
            rw [gF_R]
            exact ⟨⟨a6, a7, a8, a9⟩, a10, a11⟩
          · refine (hD f c1 (by omega)).kept (fun j j1 j6 => ?_)
            rw [a5 j f j1 j6 q, f1 _ (by omega)]
      refine ⟨fun e => ?_, fun e => ?_⟩
      · have e : S (9 + (b + i)) = v := nI_inj (by omega) (by omega) e
        exact body 0 (by decide) ⟨fun y => absurd y (by decide), fun y => absurd e y⟩
      · have e : S (9 + (b + i)) ≠ v := fun y => e (by rw [y])
        exact body 1 (by decide) ⟨fun _ => e, fun _ => rfl⟩
theorem lq_lay97 {M0 : Mem} {h r b d v bent : Nat} {S : Nat → Nat} {K : Int32 → Mem → Prop} (hr : r + 2 < h ∨ h + 6 < r) (hS : CV S) (hC : CC M0 r S) (hb : b < S 0) (hbent : bent < 128) (hbt : ∀ j, j < 7 → bent.testBit j = (d.testBit j && !decide (j = b))) (hv : v ≤ 1)
    (hK : ∀ M : Mem, (∀ a, a < h ∨ h + 6 < a → M a = M0 a) → M h 0 = nI (S 0 + 1) → (∀ f, f ≤ S 0 → DRAWN M h S b d v f) → K (-1) M) :
    ∀ (n i : Nat) (w : Nat) (M : Mem), i ≤ b → b + 2 ≤ n + i → (∀ a, a < h ∨ h + 6 < a → M a = M0 a) → M h 0 = nI (S 0 + 1) → w < 4 → (if bent.testBit (b - i) then (w + (if S (9 + (b - i)) ≠ v then 3 else 1)) % 4 else w) = (gL S b d v i).2.2 → M h 1 = iI (gL S b d v i).1 → M h 2 = iI (gL S b d v i).2.1 → M h 3 = iI (gdx w) → M h 4 = iI (gdy w) → (∀ f, b - i < f → f ≤ S 0 → DRAWN M h S b d v f) → w_X3_layFlat_97 h r n (nI v) (nI bent) (nI (b - i)) M K := by
  intro n
  have h7 := hS.1.2
  induction n with
  | zero => intro i w M h1 h2; omega
  | succ n ih =>
    intro i w M h1 h2 hM h0 hw hturn hx hy hsx hsy hD
    unfold w_X3_layFlat_97
    refine ⟨fun z => absurd z (nI_neg (by omega)), fun z => ?_⟩
    have hCM : CC M r S := hC.kept (hM r (by omega)) (hM _ (by omega)) (hM _ (by omega))
    refine pw_isUpC hCM hS (by omega) ?_
    have hu := hS.2.2.1 (b - i) (by omega)
    have body : ∀ cc : Nat, cc ≤ 1 → (cc = 1 ↔ ¬ S (9 + (b - i)) ≠ v) → w_X3_turnAt h (nI (b - i)) (nI bent) (nI cc) M (fun M10 => w_X4_lengthAt r (nI (b - i)) M10 (fun v12 M11 => w_X3_draw h (nI (b - i)) v12 M11 (fun M13 => ∀ y14 : Int32, y14 = nI (b - i) + (-1 : Int32) → w_X3_layFlat_97 h r n (nI v) (nI bent) y14 M13 K))) := by
      intro cc hcc hiff
      refine pw_turnAt (w := w) (by omega) hbent hcc hw hsx hsy (fun M1 w1 e1 w14 f1 f2 g3 g4 => ?_)
      have ew1 : w1 = (gL S b d v i).2.2 := by
        rw [e1, ← hturn]
        by_cases q : S (9 + (b - i)) ≠ v
        · rw [if_pos q, if_neg (fun y => hiff.mp y q)]
        · rw [if_neg q, if_pos (hiff.mpr q)]
      subst ew1
      refine pw_lengthAt (by omega) ?_
      have eL : M1 (r + 1) (b - i) = nI (S (1 + (b - i))) := by rw [f1 _ (by omega)]; exact hCM.2.2.1 _ (by omega)
      rw [eL]
      have hl := hS.2.1 (b - i) (by omega)
      obtain ⟨gx, gy⟩ := gd_in (gL S b d v i).2.2
      have k1 : M1 h 1 = iI (gL S b d v i).1 := by rw [f2 1 (by decide) (by decide)]; exact hx
      have k2 : M1 h 2 = iI (gL S b d v i).2.1 := by rw [f2 2 (by decide) (by decide)]; exact hy
      refine pw_draw (by omega) (by omega) k1 k2 g3 g4 gx gy (fun M2 a1 a2 a3 a4 a5 a6 a7 a8 a9 a10 a11 => ?_)
      rintro _ rfl
      have dn : ∀ f, b - i ≤ f → f ≤ S 0 → DRAWN M2 h S b d v f := by
        intro f c1 c2
        by_cases q : f = b - i
        · subst q
          unfold DRAWN bxF gE
          rw [gF_L h1]
          exact ⟨⟨a6, a7, a8, a9⟩, a10, a11⟩
        · refine (hD f (by omega) c2).kept (fun j j1 j6 => ?_)
          rw [a5 j f j1 j6 q, f1 _ (by omega)]
      have fr : ∀ a, a < h ∨ h + 6 < a → M2 a = M0 a := fun a ha => by rw [a1 a ha, f1 a (by omega)]; exact hM a ha
      have fz : M2 h 0 = nI (S 0 + 1) := by rw [a2 0 (by decide) (by decide), f2 0 (by decide) (by decide)]; exact h0
      by_cases hi : i = b
      · subst hi
        have e : nI (i - i) + (-1 : Int32) = -1 := by rw [Nat.sub_self]; decide
        rw [e]
        obtain ⟨n', hn'⟩ : ∃ n', n = n' + 1 := ⟨n - 1, by omega⟩
        subst hn'
        unfold w_X3_layFlat_97
        exact ⟨fun _ => hK M2 fr fz (fun f hf => dn f (by omega) hf), fun y => absurd (by decide) y⟩
      · rw [show b - i = b - (i + 1) + 1 by omega, pk_m1]
        refine ih (i + 1) (gL S b d v i).2.2 M2 (by omega) (by omega) fr fz w14 ?_ a3 a4 (by rw [a2 3 (by decide) (by decide)]; exact g3) (by rw [a2 4 (by decide) (by decide)]; exact g4) (fun f c1 c2 => dn f (by omega) c2)
        show _ = ((gL S b d v i).2.2 + gtr S d v (b - (i + 1)) false) % 4
        rw [hbt _ (by omega)]
        unfold gtr
        by_cases q : d.testBit (b - (i + 1)) = true
        · rw [q]
          have : ¬ (b - (i + 1) = b) := by omega
          simp only [this, decide_false, Bool.not_false, Bool.and_true, if_true]
          congr 2
          by_cases p : S (9 + (b - (i + 1))) ≠ v
          · rw [if_pos p, if_neg (by simpa using p)]
          · rw [if_neg p, if_pos (by simpa using p)]
        · have q' : d.testBit (b - (i + 1)) = false := by simpa using q
          rw [q']
          simp only [Bool.false_and, if_neg Bool.false_ne_true, Nat.add_zero]
          exact (Nat.mod_eq_of_lt w14).symm
    refine ⟨fun e => ?_, fun e => ?_⟩
    · have e : S (9 + (b - i)) ≠ v := fun y => e (by rw [y])
      exact body 0 (by decide) ⟨fun y => absurd y (by decide), fun y => absurd e y⟩
    · have e : S (9 + (b - i)) = v := nI_inj (by omega) (by omega) e
      exact body 1 (by decide) ⟨fun _ y => y e, fun _ => rfl⟩
theorem pw_layFlat {M : Mem} {h r b d v : Nat} {S : Nat → Nat} {Q : Mem → Prop} (hr : r + 2 < h ∨ h + 6 < r) (hS : CV S) (hC : CC M r S) (hb : b < S 0) (hd : d < 128) (hv : v ≤ 1) (hQ : ∀ M', LAID M M' h S b d v → Q M') : w_X3_layFlat h r (nI b) (nI d) (nI v) M Q := by
  have h7 := hS.1.2
  unfold w_X3_layFlat
  rw [bit_clr d hd b (by omega), hC.1, nI_add]
  rintro _ rfl _ rfl
  have e8 : (if nI 8 < nI (S 0 + 1) then nI 8 else nI (S 0 + 1)) = nI (S 0 + 1) := by
    rw [if_neg]
    rw [nI_ltI (by decide) (by omega)]
    omega
  rw [e8]
  rintro M1 hM1
  have b1 := bit_cl_lt d hd b (by omega)
  have b2 := fun j (hj : j < 7) => bit_cl_t d hd b (by omega) j hj
  generalize hbent : (if d.testBit b then d - 2 ^ b else d) = bent at b1 b2
  have b3 : ∀ j, j < 7 → bent.testBit j = (d.testBit j && !decide (j = b)) := fun j hj => by rw [b2 j hj, Bool.and_comm]
  have bb : bent.testBit b = false := by rw [b3 b (by omega)]; simp
  have fr1 : ∀ a, a ≠ h → M1 a = M a := fun a ha => by rw [hM1, um_n ha]
  have hC1 : CC M1 r S := hC.kept (fr1 _ (by omega)) (fr1 _ (by omega)) (fr1 _ (by omega))
  refine pw_startAt (fun M2 f2 z2 x2 y2 s2 t2 => ?_)
  rintro _ rfl
  rw [nI_add]
  have hC2 : CC M2 r S := hC1.kept (f2 _ (by omega)) (f2 _ (by omega)) (f2 _ (by omega))
  refine lq_lay34 (M0 := M2) (d := d) hr hS hC2 hb b1 b3 hv (fun M3 f3 z3 d3 => ?_) FU 0 0 M2 (by omega) (by show S 0 + 2 ≤ 1000 + _; omega) (fun _ _ => rfl) (by rw [z2, hM1, um_s, upd_s]) (by decide) (fun _ => ?_) x2 y2 (by rw [s2]; rfl) (by rw [t2]; rfl) (fun f c1 c2 => by omega)
  · refine pw_startAt (fun M4 f4 z4 x4 y4 s4 t4 => ?_)
    have hC4 : CC M4 r S := hC2.kept (by rw [f4 _ (by omega)]; exact f3 _ (by omega)) (by rw [f4 _ (by omega)]; exact f3 _ (by omega)) (by rw [f4 _ (by omega)]; exact f3 _ (by omega))
    have q := lq_lay97 (M0 := M4) (d := d) (K := fun _ M38 => Q M38) hr hS hC4 hb b1 b3 hv (fun M5 f5 z5 d5 => hQ M5 ⟨⟨z5, fun f hf => (d5 f hf).1⟩, fun f hf => (d5 f hf).2, fun a ha => by rw [f5 a ha, f4 a (by omega), f3 a ha, f2 a (by omega), fr1 a (by omega)]⟩) FU 0 2 M4 (Nat.zero_le _) (by show b + 2 ≤ 1000 + 0; omega) (fun _ _ => rfl) (by rw [z4]; exact z3) (by decide) (by rw [Nat.sub_zero, bb]; rfl) x4 y4 (by rw [s4]; rfl) (by rw [t4]; rfl) (fun f c1 c2 => by
      refine (d3 f (by omega) c2).kept (fun i i1 i6 => ?_)
      rw [f4 _ (by omega)])
    exact q
  · rw [show b + 0 = b from rfl, bb]
    rfl
/-! the class's strikes -/
theorem nI_or (a b : Nat) : nI a ||| nI b = nI (a ||| b) := by
  apply Int32.toBitVec.inj
  show BitVec.ofNat 32 a ||| BitVec.ofNat 32 b = BitVec.ofNat 32 (a ||| b)
  exact BitVec.ofNat_or.symm
theorem bit_set8 : ∀ b, b < 8 → nI 1 <<< (nI b &&& 31) = nI (2 ^ b) := by decide +kernel
theorem bsB_t (f : Nat → Bool) : ∀ n j, (bsB f n).testBit j = (decide (j < n) && f j) := by
  intro n
  induction n with
  | zero => intro j; simp [bsB]
  | succ n ih =>
    intro j
    show (if f n then bsB f n ||| 2 ^ n else bsB f n).testBit j = _
    by_cases c : f n = true
    · rw [if_pos c, Nat.testBit_or, ih, Nat.testBit_two_pow]
      by_cases e : j = n
      · subst e; simp [c]
      · have e1 : decide (n = j) = false := by simp; omega
        have e2 : decide (j < n + 1) = decide (j < n) := by
          rw [decide_eq_decide]; omega
        rw [e1, e2, Bool.or_false]
    · rw [if_neg c, ih]
      by_cases e : j = n
      · subst e
        have c' : f j = false := by simpa using c
        simp [c']
      · have e2 : decide (j < n + 1) = decide (j < n) := by
          rw [decide_eq_decide]; omega
        rw [e2]
theorem bsB_or (f g : Nat → Bool) (n : Nat) : bsB f n ||| bsB g n = bsB (fun j => f j || g j) n := by
  apply Nat.eq_of_testBit_eq
  intro j
  rw [Nat.testBit_or, bsB_t, bsB_t, bsB_t, Bool.and_or_distrib_left]
theorem bsB_lt (f : Nat → Bool) : ∀ n, bsB f n < 2 ^ n := by
  intro n
  induction n with
  | zero => exact Nat.one_pos
  | succ n ih =>
    show (if f n then bsB f n ||| 2 ^ n else bsB f n) < 2 ^ (n + 1)
    have h2 : 2 ^ n < 2 ^ (n + 1) := Nat.pow_lt_pow_right (by decide) (Nat.lt_succ_self n)
    split
    · exact Nat.or_lt_two_pow (Nat.lt_trans ih h2) h2
    · exact Nat.lt_trans ih h2
theorem bsB_0 (f : Nat → Bool) (n : Nat) : bsB f n = 0 ↔ ∀ j, j < n → f j = false := by
  refine ⟨fun h j hj => ?_, fun h => ?_⟩
  · have := bsB_t f n j
    rw [h] at this
    simp [hj] at this
    exact this
  · apply Nat.eq_of_testBit_eq
    intro j
    rw [bsB_t]
    by_cases c : j < n
    · simp [h j c]
    · simp [c]
theorem anyF_iff (n : Nat) (p : Nat → Bool) : anyF n p = true ↔ ∃ f, f ≤ n ∧ p f = true := by
  unfold anyF
  rw [List.any_eq_true]
  refine ⟨fun ⟨f, h1, h2⟩ => ⟨f, ?_, h2⟩, fun ⟨f, h1, h2⟩ => ⟨f, List.mem_range.mpr (by omega), h2⟩⟩
  have := List.mem_range.mp h1
  omega
theorem anyF_bs (n : Nat) (p : Nat → Bool) : anyF n p = decide (bsB p (n + 1) ≠ 0) := by
  by_cases c : anyF n p = true
  · rw [c]
    obtain ⟨f, h1, h2⟩ := (anyF_iff n p).mp c
    symm
    rw [decide_eq_true_eq]
    intro h
    have := (bsB_0 p (n + 1)).mp h f (by omega)
    rw [this] at h2
    cases h2
  · have c' : anyF n p = false := by simpa using c
    rw [c']
    symm
    rw [decide_eq_false_iff_not]
    intro h
    apply h
    rw [bsB_0]
    intro j hj
    by_cases e : p j = true
    · exact absurd ((anyF_iff n p).mpr ⟨j, by omega, e⟩) c
    · simpa using e
theorem lq_fl {M : Mem} {h n0 : Nat} {B : Nat → BX} {x1 x2 y1 y2 : Int} {K : Int32 → Int32 → Mem → Prop} (hB : BXM M h n0 B) (hbd : BBd n0 B) (hn : n0 ≤ 7) (b1 : -100 ≤ x1 ∧ x1 ≤ 100) (b2 : -100 ≤ x2 ∧ x2 ≤ 100) (b3 : -100 ≤ y1 ∧ y1 ≤ 100) (b4 : -100 ≤ y2 ∧ y2 ≤ 100)
    (hK : K (nI (bsB (fun f => hitB (B f) x1 x2 y1 y2) (n0 + 1))) (nI (n0 + 1)) M) : ∀ (n j : Nat), j ≤ n0 + 1 → n0 + 2 ≤ n + j → w_X3_flangesIn_6 h n (iI x1) (iI x2) (iI y1) (iI y2) (nI (bsB (fun f => hitB (B f) x1 x2 y1 y2) j)) (nI j) M K := by
  intro n
  induction n with
  | zero => intro j h1 h2; omega
  | succ n ih =>
    intro j h1 h2
    unfold w_X3_flangesIn_6
    rw [hB.1]
    refine ⟨fun z => ?_, fun z => ?_⟩
    · rw [nI_leI (by omega) (by omega)] at z
      have e : j = n0 + 1 := by omega
      subst e
      exact hK
    · rw [nI_leI (by omega) (by omega)] at z
      refine ⟨fun y => ?_, fun _ => ?_⟩
      · rw [nI_leI (by decide) (by omega)] at y; omega
      have hv : vp_in (nI j) 8 := vp_in_nI (by omega) (by decide)
      obtain ⟨e1, e2, e3, e4⟩ := hB.2 j (by omega)
      obtain ⟨d1, d2, d3, d4⟩ := hbd j (by omega)
      rw [nI_clamp (by omega), e1, e2, e3, e4]
      have hp : (fun f => hitB (B f) x1 x2 y1 y2) j = (decide (¬ (B j).1.2 < x1) && decide (¬ x2 < (B j).1.1) && decide (¬ y2 < (B j).2.1) && decide (¬ (B j).2.2 < y1) && decide (y1 ≤ y2)) := rfl
      have hN : hitB (B j) x1 x2 y1 y2 = false → ∀ y : Int32, y = nI j + nI 1 → w_X3_flangesIn_6 h n (iI x1) (iI x2) (iI y1) (iI y2) (nI (bsB (fun f => hitB (B f) x1 x2 y1 y2) j)) y M K := by
        rintro hh _ rfl
        rw [nI_add]
        have := ih (j + 1) (by omega) (by omega)
        rw [show bsB (fun f => hitB (B f) x1 x2 y1 y2) (j + 1) = bsB (fun f => hitB (B f) x1 x2 y1 y2) j from if_neg (by show ¬ hitB (B j) x1 x2 y1 y2 = true; rw [hh]; decide)] at this
        exact this
      have hY : hitB (B j) x1 x2 y1 y2 = true → ∀ y : Int32, y = (nI (bsB (fun f => hitB (B f) x1 x2 y1 y2) j)) ||| (nI 1 <<< (nI j &&& 31)) → ∀ y' : Int32, y' = nI j + nI 1 → w_X3_flangesIn_6 h n (iI x1) (iI x2) (iI y1) (iI y2) y y' M K := by
        rintro hh _ rfl _ rfl
        rw [nI_add, bit_set8 j (by omega), nI_or]
        have := ih (j + 1) (by omega) (by omega)
        rw [show bsB (fun f => hitB (B f) x1 x2 y1 y2) (j + 1) = bsB (fun f => hitB (B f) x1 x2 y1 y2) j ||| 2 ^ j from if_pos hh] at this
        exact this
      generalize nI (bsB (fun f => hitB (B f) x1 x2 y1 y2) j) = acc at hN hY ⊢
      have n10 : (nI 1 = 0) = False := eq_false (by decide)
      have n00 : (nI 0 = 0) = True := eq_true (by decide)
      have hvt := eq_true hv
      unfold hitB at hN hY
      rw [iI_lt (by omega) (by omega), iI_le (by omega) (by omega), iI_le (by omega) (by omega), iI_le (by omega) (by omega), iI_lt (by omega) (by omega)]
      by_cases c1 : (B j).1.2 < x1 <;> by_cases c2 : (B j).1.1 ≤ x2 <;> by_cases c3 : (B j).2.1 ≤ y2 <;> by_cases c4 : y1 ≤ (B j).2.2 <;> by_cases c5 : y2 < y1 <;> simp only [c1, c2, c3, c4, c5, hvt, n10, n00, not_true_eq_false, not_false_eq_true, true_implies, false_implies, and_true, true_and, if_true, if_false, implies_true]
      all_goals first
        | exact hN (by
            simp only [Bool.and_eq_false_iff, decide_eq_false_iff_not]
            omega)
        | exact hY (by
            simp only [Bool.and_eq_true, decide_eq_true_eq]
            omega)
/-! the class's reason -/
theorem pw_flangesIn {M : Mem} {h n0 : Nat} {B : Nat → BX} {x1 x2 y1 y2 : Int} {Q : Int32 → Mem → Prop} (hB : BXM M h n0 B) (hbd : BBd n0 B) (hn : n0 ≤ 7) (b1 : -100 ≤ x1 ∧ x1 ≤ 100) (b2 : -100 ≤ x2 ∧ x2 ≤ 100) (b3 : -100 ≤ y1 ∧ y1 ≤ 100) (b4 : -100 ≤ y2 ∧ y2 ≤ 100)
    (hQ : Q (nI (bsB (fun f => hitB (B f) x1 x2 y1 y2) (n0 + 1))) M) : w_X3_flangesIn h (iI x1) (iI x2) (iI y1) (iI y2) M Q := by
  unfold w_X3_flangesIn
  exact lq_fl (K := fun y134 _ M136 => Q y134 M136) hB hbd hn b1 b2 b3 b4 hQ FU 0 (Nat.zero_le _) (by show _ ≤ 1000 + 0; omega)
theorem pw_inLower {M : Mem} {p n0 : Nat} {B : Nat → BX} {Q : Int32 → Mem → Prop} (hB : BXM M (p + 1) n0 B) (hbd : BBd n0 B) (hn : n0 ≤ 7) (hQ : Q (nI (bsB (fun f => lowB (B f)) (n0 + 1))) M) : w_X2_inLower p M Q := by
  unfold w_X2_inLower
  exact pw_flangesIn (x1 := 1) (x2 := 3) (y1 := -3) (y2 := -1) hB hbd hn (by decide) (by decide) (by decide) (by decide) hQ
theorem pw_inUpper {M : Mem} {p r n0 : Nat} {S : Nat → Nat} {B : Nat → BX} {Q : Int32 → Mem → Prop} (hC : CC M r S) (hS : CV S) (hB : BXM M (p + 1) n0 B) (hbd : BBd n0 B) (hn : n0 ≤ 7) (hQ : Q (nI (bsB (fun f => uppB S (B f)) (n0 + 1))) M) : w_X2_inUpper p r M Q := by
  unfold w_X2_inUpper
  obtain ⟨_, _, _, s1, s2, _⟩ := hS
  have e0 : M (r + 2) 0 = nI (S 18) := hC.2.2.2 0 (by decide)
  have e1 : M (r + 2) 1 = nI (S 19) := hC.2.2.2 1 (by decide)
  refine pw_settingAt (by decide) ?_
  rw [e0]
  refine pw_settingAt (by decide) ?_
  rw [e1]
  rintro _ rfl
  have em : (if nI (S 18) < nI 2 then nI (S 18) else nI 2) = iI (min 2 (S 18 : Int)) := by
    by_cases c : S 18 < 2
    · rw [if_pos (by rw [nI_ltI (by omega) (by decide)]; exact c), show min 2 (S 18 : Int) = (S 18 : Int) by omega, iI_nat]
    · rw [if_neg (by rw [nI_ltI (by omega) (by decide)]; exact c), show min 2 (S 18 : Int) = 2 by omega]
      rfl
  rw [em, nI_add, ← iI_nat (1 + S 19), ← iI_nat (S 18)]
  refine pw_flangesIn (x1 := 1) (x2 := 1) (y1 := 1) hB hbd hn (by decide) (by decide) (by decide) (by omega) ?_
  refine pw_flangesIn (x1 := 1) (y1 := 3) hB hbd hn (by decide) (by omega) (by decide) (by omega) ?_
  rw [nI_or, bsB_or]
  have : (fun f => uppB S (B f)) = fun j => hitB (B j) 1 1 1 (min 2 (S 18 : Int)) || hitB (B j) 1 (↑(1 + S 19)) 3 (↑(S 18)) := by
    funext f
    unfold uppB
    rw [show ((1 + S 19 : Nat) : Int) = 1 + (S 19 : Int) by omega]
  rw [← this]
  exact hQ
def swB (b : Nat) (B : Nat → BX) (f : Nat) : BX := if f ≤ b then ((B f).2, (-(B f).1.2, -(B f).1.1)) else B f
theorem bxS_sw (S : Nat → Nat) (b d v : Nat) : bxS S b d v = swB b (bxF S b d v) := rfl
def SWK (M : Mem) (h n j : Nat) (B : Nat → BX) : Prop := ∀ f, f ≤ n → M (h + 1) f = iI (swB j B f).1.1 ∧ M (h + 2) f = iI (swB j B f).1.2 ∧ M (h + 3) f = iI (swB j B f).2.1 ∧ M (h + 4) f = iI (swB j B f).2.2
def swj (j : Nat) (B : Nat → BX) (f : Nat) : BX := if f < j then ((B f).2, (-(B f).1.2, -(B f).1.1)) else B f
theorem lq_sw {M0 : Mem} {h n0 b : Nat} {B : Nat → BX} {K : Int32 → Mem → Prop} (hb : b ≤ n0) (hn : n0 ≤ 7) (hK : ∀ (x : Int32) (M : Mem), (∀ a, a ≤ h ∨ h + 4 < a → M a = M0 a) → BXM M h n0 (swj (b + 1) B) → K x M) :
    ∀ (n j : Nat) (M : Mem), j ≤ b + 1 → b + 2 ≤ n + j → (∀ a, a ≤ h ∨ h + 4 < a → M a = M0 a) → BXM M h n0 (swj j B) → w_X3_swingUp_2 h n (nI b) (nI j) M K := by
  intro n
  induction n with
  | zero => intro j M h1 h2; omega
  | succ n ih =>
    intro j M h1 h2 hM hB
    unfold w_X3_swingUp_2
    refine ⟨fun z => ?_, fun z => ?_⟩
    · rw [nI_ltI (by omega) (by omega)] at z
      have e : j = b + 1 := by omega
      subst e
      exact hK _ M hM hB
    · rw [nI_ltI (by omega) (by omega)] at z
      refine ⟨fun y => ?_, fun _ => ?_⟩
      · rw [nI_leI (by decide) (by omega)] at y; omega
      have hv : vp_in (nI j) 8 := vp_in_nI (by omega) (by decide)
      rw [nI_clamp (by omega)]
      obtain ⟨e1, e2, e3, e4⟩ := hB.2 j (by omega)
      have ej : swj j B j = B j := if_neg (Nat.lt_irrefl _)
      rw [ej] at e1 e2 e3 e4
      refine ⟨hv, ?_⟩
      rintro _ rfl
      refine ⟨hv, ?_⟩
      rintro _ rfl
      refine ⟨hv, hv, ?_⟩
      rintro M1 q1
      refine ⟨hv, hv, ?_⟩
      rintro M2 q2
      refine ⟨hv, ?_⟩
      rintro M3 q3
      refine ⟨hv, ?_⟩
      rintro M4 q4 _ rfl
      rw [nI_add]
      have fr : ∀ a, a ≤ h ∨ h + 4 < a → M4 a = M a := fun a ha => by rw [q4, um_n (by omega), q3, um_n (by omega), q2, um_n (by omega), q1, um_n (by omega)]
      have g1 : M4 (h + 1) = upd (M (h + 1)) j (iI (B j).2.1) := by rw [q4, um_n (by omega), q3, um_n (by omega), q2, um_n (by omega), q1, um_s, e3]
      have g2 : M4 (h + 2) = upd (M (h + 2)) j (iI (B j).2.2) := by rw [q4, um_n (by omega), q3, um_n (by omega), q2, um_s, q1, um_n (by omega), um_n (by omega), e4]
      have g3 : M4 (h + 3) = upd (M (h + 3)) j (iI (-(B j).1.2)) := by rw [q4, um_n (by omega), q3, um_s, q2, um_n (by omega), q1, um_n (by omega), e2, iI_neg]
      have g4 : M4 (h + 4) = upd (M (h + 4)) j (iI (-(B j).1.1)) := by rw [q4, um_s, q3, um_n (by omega), q2, um_n (by omega), q1, um_n (by omega), e1, iI_neg]
      refine ih (j + 1) M4 (by omega) (by omega) (fun a ha => by rw [fr a ha, hM a ha]) ⟨?_, fun f hf => ?_⟩
      · rw [fr h (by omega)]; exact hB.1
      · rw [g1, g2, g3, g4]
        by_cases c : f = j
        · subst c
          have : swj (f + 1) B f = ((B f).2, (-(B f).1.2, -(B f).1.1)) := if_pos (by omega)
          rw [this, upd_s, upd_s, upd_s, upd_s]
          exact ⟨rfl, rfl, rfl, rfl⟩
        · have : swj (j + 1) B f = swj j B f := by
            unfold swj
            by_cases q : f < j
            · rw [if_pos q, if_pos (by omega)]
            · rw [if_neg q, if_neg (by omega)]
          rw [this, upd_n c, upd_n c, upd_n c, upd_n c]
          exact hB.2 f hf
theorem pw_swing {M : Mem} {h n0 b : Nat} {B : Nat → BX} {Q : Mem → Prop} (hB : BXM M h n0 B) (hb : b ≤ n0) (hn : n0 ≤ 7) (hQ : ∀ M', (∀ a, a ≤ h ∨ h + 4 < a → M' a = M a) → BXM M' h n0 (swB b B) → Q M') : w_X3_swingUp h (nI b) M Q := by
  unfold w_X3_swingUp
  have e0 : swj 0 B = B := by funext f; exact if_neg (Nat.not_lt_zero _)
  have e1 : swj (b + 1) B = swB b B := by
    funext f
    unfold swj swB
    by_cases c : f ≤ b
    · rw [if_pos c, if_pos (by omega)]
    · rw [if_neg c, if_neg (by omega)]
  refine lq_sw (M0 := M) (B := B) hb hn (fun x M' hM hB' => hQ M' hM (by rw [← e1]; exact hB')) FU 0 M (Nat.zero_le _) (by show _ ≤ 1000 + 0; omega) (fun _ _ => rfl) (by rw [e0]; exact hB)
theorem bit_shr : ∀ m, m < 256 → ∀ k, k < 10 → (nI m >>> (nI k &&& 31) = 0 ↔ m < 2 ^ k) := by decide +kernel
def slfB (n : Nat) (B : Nat → BX) (f : Nat) : Bool := anyF n (fun g => decide (f + 2 ≤ g) && hitB (B g) (B f).1.1 (B f).1.2 (B f).2.1 (B f).2.2)
theorem slf_sh (n : Nat) (B : Nat → BX) (f : Nat) : slfB n B f = true ↔ ¬ bsB (fun g => hitB (B g) (B f).1.1 (B f).1.2 (B f).2.1 (B f).2.2) (n + 1) < 2 ^ (f + 2) := by
  unfold slfB
  rw [anyF_iff]
  refine ⟨fun ⟨g, g1, g2⟩ hlt => ?_, fun h => ?_⟩
  · simp only [Bool.and_eq_true, decide_eq_true_eq] at g2
    have t := Nat.testBit_lt_two_pow (Nat.lt_of_lt_of_le hlt (Nat.pow_le_pow_right (by decide) g2.1))
    rw [bsB_t, g2.2] at t
    simp at t
    omega
  · refine Classical.byContradiction fun hn => h ?_
    refine Nat.lt_pow_two_of_testBit _ (fun i hi => ?_)
    rw [bsB_t]
    by_cases c : i < n + 1
    · by_cases q : hitB (B i) (B f).1.1 (B f).1.2 (B f).2.1 (B f).2.2 = true
      · exact absurd ⟨i, by omega, by simp only [Bool.and_eq_true, decide_eq_true_eq]; exact ⟨hi, q⟩⟩ hn
      · simp [q]
    · simp [c]
theorem lq_self {M : Mem} {h n0 : Nat} {B : Nat → BX} {Q : Int32 → Mem → Prop} {K : Int32 → Mem → Prop} (hB : BXM M h n0 B) (hbd : BBd n0 B) (hn : n0 ≤ 7) (hQ : anyF n0 (slfB n0 B) = true → Q (nI 1) M) (hK : ∀ x, anyF n0 (slfB n0 B) = false → K x M) :
    ∀ (n j : Nat), j ≤ n0 + 1 → n0 + 2 ≤ n + j → (∀ f, f < j → slfB n0 B f = false) → w_X3_strikesItself_2 h n (nI j) M Q K := by
  intro n
  induction n with
  | zero => intro j h1 h2; omega
  | succ n ih =>
    intro j h1 h2 hs
    unfold w_X3_strikesItself_2
    rw [hB.1]
    refine ⟨fun z => ?_, fun z => ?_⟩
    · rw [nI_leI (by omega) (by omega)] at z
      refine hK _ ?_
      by_cases c : anyF n0 (slfB n0 B) = true
      · obtain ⟨f, f1, f2⟩ := (anyF_iff _ _).mp c
        rw [hs f (by omega)] at f2
        cases f2
      · simpa using c
    · rw [nI_leI (by omega) (by omega)] at z
      refine ⟨fun y => ?_, fun _ => ?_⟩
      · rw [nI_leI (by decide) (by omega)] at y; omega
      have hv : vp_in (nI j) 8 := vp_in_nI (by omega) (by decide)
      rw [nI_clamp (by omega)]
      obtain ⟨e1, e2, e3, e4⟩ := hB.2 j (by omega)
      obtain ⟨d1, d2, d3, d4⟩ := hbd j (by omega)
      rw [e1, e2, e3, e4]
      refine ⟨hv, hv, hv, hv, ?_⟩
      refine pw_flangesIn hB hbd hn (by omega) (by omega) (by omega) (by omega) ?_
      have hsh := slf_sh n0 B j
      have hm : bsB (fun g => hitB (B g) (B j).1.1 (B j).1.2 (B j).2.1 (B j).2.2) (n0 + 1) < 256 := Nat.lt_of_lt_of_le (bsB_lt _ _) (Nat.pow_le_pow_right (n := 2) (by decide) (show n0 + 1 ≤ 8 by omega))
      rw [nI_add]
      generalize bsB (fun g => hitB (B g) (B j).1.1 (B j).1.2 (B j).2.1 (B j).2.2) (n0 + 1) = m at hsh hm ⊢
      rw [bit_shr m hm (j + 2) (by omega)]
      refine ⟨fun y => ?_, fun y => ?_⟩
      · rintro _ rfl
        rw [nI_add]
        refine ih (j + 1) (by omega) (by omega) (fun f hf => ?_)
        by_cases c : f = j
        · subst c
          by_cases q : slfB n0 B f = true
          · exact absurd y (hsh.mp q)
          · simpa using q
        · exact hs f (by omega)
      · exact hQ ((anyF_iff _ _).mpr ⟨j, by omega, hsh.mpr y⟩)
theorem pw_strikesItself {M : Mem} {h n0 : Nat} {B : Nat → BX} {Q : Int32 → Mem → Prop} (hB : BXM M h n0 B) (hbd : BBd n0 B) (hn : n0 ≤ 7) (h1 : anyF n0 (slfB n0 B) = true → Q (nI 1) M) (h0 : anyF n0 (slfB n0 B) = false → Q (nI 0) M) : w_X3_strikesItself h M Q := by
  unfold w_X3_strikesItself
  exact lq_self (K := fun _ M8 => Q (nI 0) M8) hB hbd hn h1 (fun _ => h0) FU 0 (Nat.zero_le _) (by show _ ≤ 1000 + 0; omega) (fun f hf => by omega)
theorem lq_clamp {M : Mem} {r d : Nat} {S : Nat → Nat} {K : Int32 → Int32 → Mem → Prop} {T : Nat} (hC : CC M r S) (hS : CV S) (hd : d < 128) (hK : ∀ x, K (nI T) x M) :
    ∀ (n k j s : Nat), j ≤ S 0 → S 0 + 1 ≤ n + j → S 0 + 1 ≤ k + j → T = s + clF S d k j → w_X4_clampedLength_13 r n (nI d) (nI s) (nI j) M K := by
  intro n
  have h7 := hS.1.2
  induction n with
  | zero => intro k j s h1 h2; omega
  | succ n ih =>
    intro k j s h1 h2 h3 hT
    obtain ⟨k', hk'⟩ : ∃ k', k = k' + 1 := ⟨k - 1, by omega⟩
    subst hk'
    have hT : T = s + if j < S 0 ∧ d.testBit j = false then S (1 + (j + 1)) + clF S d k' (j + 1) else 0 := hT
    unfold w_X4_clampedLength_13
    rw [hC.1]
    refine ⟨fun z => ?_, fun z => ?_⟩
    · rw [nI_leI (by omega) (by omega)] at z
      rw [if_neg (by omega)] at hT
      rw [show nI s = nI T by rw [hT]; rfl]
      exact hK _
    · rw [nI_leI (by omega) (by omega)] at z
      rw [bit_get d hd j (by omega)]
      by_cases c : d.testBit j = true
      · rw [if_pos c]
        refine ⟨fun _ => ?_, fun y => absurd y (by decide)⟩
        rw [if_neg (by rw [c]; simp)] at hT
        rw [show nI s = nI T by rw [hT]; rfl]
        exact hK _
      · rw [if_neg c]
        refine ⟨fun y => absurd rfl y, fun _ => ?_⟩
        rw [nI_add]
        refine pw_lengthAt (by omega) ?_
        rw [hC.2.2.1 (j + 1) (by omega)]
        rintro _ rfl _ rfl
        rw [nI_add]
        refine ih k' (j + 1) _ (by omega) (by omega) (by omega) ?_
        rw [if_pos ⟨by omega, by simpa using c⟩] at hT
        omega
theorem clF_bd {S : Nat → Nat} (hS : CV S) (d : Nat) : ∀ k j, clF S d k j ≤ 9 * k := by
  intro k
  induction k with
  | zero => intro j; exact Nat.le_refl _
  | succ k ih =>
    intro j
    show (if j < S 0 ∧ d.testBit j = false then S (1 + (j + 1)) + clF S d k (j + 1) else 0) ≤ _
    split
    · rename_i h
      have := ih (j + 1)
      have := hS.2.1 (j + 1) (by omega)
      omega
    · omega
theorem clm_bd {S : Nat → Nat} (hS : CV S) {b d : Nat} (hb : b < S 0) : clm S b d ≤ 81 := by
  have := clF_bd hS d 8 (b + 1)
  have := hS.2.1 (b + 1) (by omega)
  unfold clm
  omega
theorem pw_clamped {M : Mem} {r b d : Nat} {S : Nat → Nat} {Q : Int32 → Mem → Prop} (hC : CC M r S) (hS : CV S) (hd : d < 128) (hb : b < S 0) (hQ : Q (nI (clm S b d)) M) : w_X4_clampedLength r (nI b) (nI d) M Q := by
  unfold w_X4_clampedLength
  have h7 := hS.1.2
  rw [nI_add]
  refine pw_lengthAt (by omega) ?_
  rw [hC.2.2.1 (b + 1) (by omega)]
  rintro _ rfl
  exact lq_clamp (K := fun y10 _ M12 => Q y10 M12) (T := clm S b d) hC hS hd (fun _ => hQ) FU 8 (b + 1) _ (by omega) (by show _ ≤ 1000 + _; omega) (by omega) rfl
theorem any_or (n : Nat) (p q : Nat → Bool) : anyF n (fun f => p f || q f) = true ↔ bsB p (n + 1) ≠ 0 ∨ bsB q (n + 1) ≠ 0 := by
  rw [anyF_iff]
  have h1 := anyF_bs n p
  have h2 := anyF_bs n q
  have i1 := anyF_iff n p
  have i2 := anyF_iff n q
  rw [h1, decide_eq_true_eq] at i1
  rw [h2, decide_eq_true_eq] at i2
  rw [i1, i2]
  refine ⟨fun ⟨f, f1, f2⟩ => ?_, fun h => ?_⟩
  · rw [Bool.or_eq_true] at f2
    rcases f2 with f2 | f2
    · exact Or.inl ⟨f, f1, f2⟩
    · exact Or.inr ⟨f, f1, f2⟩
  · rcases h with ⟨f, f1, f2⟩ | ⟨f, f1, f2⟩
    · exact ⟨f, f1, by rw [f2]; rfl⟩
    · exact ⟨f, f1, by rw [f2, Bool.or_true]⟩
theorem bsB_8 (f : Nat → Bool) {n : Nat} (hn : n ≤ 7) : bsB f (n + 1) < 2 ^ 31 := Nat.lt_trans (bsB_lt f (n + 1)) (Nat.pow_lt_pow_right (by decide) (by omega))
theorem nbit {d b : Nat} (hd : d < 128) (hb : b < 8) : ((nI d >>> (nI b &&& 31)) &&& nI 1 = nI 1) ↔ d.testBit b = true := by
  rw [bit_get d hd b hb]
  by_cases c : d.testBit b = true
  · rw [if_pos c]; exact ⟨fun _ => c, fun _ => rfl⟩
  · rw [if_neg c]; exact ⟨fun y => absurd y (by decide), fun y => absurd y c⟩
theorem pw_reason {M : Mem} {p r b d v : Nat} {S : Nat → Nat} {Q : Int32 → Mem → Prop} (hr : r + 2 < p + 1 ∨ p + 7 < r) (hS : CV S) (hC : CC M r S) (hb : b < S 0) (hd : d < 128) (hv : v ≤ 1) (hQ : ∀ M', (∀ a, a < p + 1 ∨ p + 7 < a → M' a = M a) → Q (nI (rsn S b d v)) M') : w_X2_reason p r (nI b) (nI d) (nI v) M Q := by
  unfold w_X2_reason
  have h7 := hS.1.2
  rw [nbit hd (by omega)]
  have hu := hS.2.2.1 b hb
  refine ⟨fun c1 => ?_, fun c1 => ?_⟩
  · refine pw_isUpC hC hS hb ?_
    rw [nI_eq (by omega) (by omega)]
    refine ⟨fun c2 => ?_, fun c2 => ?_⟩
    · refine pw_clamped hC hS hd hb ?_
      refine pw_settingAt (by decide) ?_
      rw [hC.2.2.2 2 (by decide)]
      have h20 := hS.2.2.2.2.2
      have hcl := clm_bd hS (d := d) hb
      rw [nI_leI (show S (18 + 2) < 2 ^ 31 by show S 20 < _; omega) (by omega)]
      refine ⟨fun c3 => ?_, fun c3 => ?_⟩
      · refine pw_layFlat (by omega) hS hC hb hd hv (fun M1 hL => ?_)
        obtain ⟨hB, -, hF⟩ := hL
        have hC1 : CC M1 r S := hC.kept (hF _ (by omega)) (hF _ (by omega)) (hF _ (by omega))
        have bF := bxF_bd hS (d := d) (v := v) hb
        have bS := bxS_bd hS (d := d) (v := v) hb
        have er : rsn S b d v = if bsB (fun f => uppB S (bxF S b d v f)) (S 0 + 1) ≠ 0 ∨ bsB (fun f => uppB S (bxS S b d v f)) (S 0 + 1) ≠ 0 then 4 else if bsB (fun f => lowB (bxF S b d v f)) (S 0 + 1) ≠ 0 ∨ bsB (fun f => lowB (bxS S b d v f)) (S 0 + 1) ≠ 0 then 5 else if selfB S b d v = true then 6 else 0 := by
          unfold rsn
          rw [if_neg c1, if_neg c2, if_neg (show ¬ clm S b d < S 20 from Nat.not_lt.mpr c3)]
          congr 1
          · exact propext (any_or _ _ _)
          · congr 1
            exact propext (any_or _ _ _)
        have esf : selfB S b d v = anyF (S 0) (slfB (S 0) (bxS S b d v)) := rfl
        have n1 := bsB_8 (fun f => uppB S (bxF S b d v f)) h7
        have n2 := bsB_8 (fun f => uppB S (bxS S b d v f)) h7
        have n3 := bsB_8 (fun f => lowB (bxF S b d v f)) h7
        have n4 := bsB_8 (fun f => lowB (bxS S b d v f)) h7
        -- behind the first two questions all goes one way
        have rest : ∀ a2 : Nat, (a2 = 0 ∧ bsB (fun f => lowB (bxF S b d v f)) (S 0 + 1) = 0 ∨ a2 = 1 ∧ bsB (fun f => lowB (bxF S b d v f)) (S 0 + 1) ≠ 0) → bsB (fun f => uppB S (bxF S b d v f)) (S 0 + 1) = 0 → ∀ M2 : Mem, (∀ a, a < p + 1 ∨ p + 7 < a → M2 a = M a) → BXM M2 (p + 1) (S 0) (bxS S b d v) → w_X2_inUpper p r M2 (fun v20 M19 => ((v20 = 0 → ((¬ (nI a2) = 0 → Q (nI 5) M19) ∧ ((nI a2) = 0 → w_X2_inLower p M19 (fun v24 M23 => ((v24 = 0 → w_X3_strikesItself (p + 1) M23 (fun v27 M26 => ((v27 = 0 → Q (nI 0) M26) ∧ (¬ v27 = 0 → Q (nI 6) M26)))) ∧ (¬ v24 = 0 → Q (nI 5) M23)))))) ∧ (¬ v20 = 0 → Q (nI 4) M19))) := by
          intro a2 ha2 hu1 M2 hM2 hB2
          have hC2 : CC M2 r S := hC.kept (hM2 _ (by omega)) (hM2 _ (by omega)) (hM2 _ (by omega))
          have hq := hQ M2 hM2
          refine pw_inUpper hC2 hS hB2 bS h7 ?_
          rw [nI_z n2]
          refine ⟨fun u2 => ?_, fun u2 => ?_⟩
          · rw [if_neg (by rw [hu1, u2]; simp)] at er
            refine ⟨fun x => ?_, fun x => ?_⟩
            · rcases ha2 with ⟨y, -⟩ | ⟨-, y⟩
              · rw [y] at x; exact absurd rfl x
              · rw [er, if_pos (Or.inl y)] at hq; exact hq
            · rcases ha2 with ⟨-, y⟩ | ⟨y, -⟩
              · refine pw_inLower hB2 bS h7 ?_
                rw [nI_z n4]
                refine ⟨fun l2 => ?_, fun l2 => ?_⟩
                · rw [if_neg (by rw [y, l2]; simp)] at er
                  refine pw_strikesItself hB2 bS h7 (fun s => ?_) (fun s => ?_)
                  · rw [er, esf, if_pos s] at hq
                    exact ⟨fun w => absurd w (by decide), fun _ => hq⟩
                  · rw [er, esf, if_neg (by rw [s]; decide)] at hq
                    exact ⟨fun _ => hq, fun w => absurd rfl w⟩
                · rw [er, if_pos (Or.inr l2)] at hq; exact hq
              · rw [y] at x; exact absurd x (by decide)
          · rw [er, if_pos (Or.inr u2)] at hq; exact hq
        have sw : ∀ {P : Mem → Prop}, (∀ M2 : Mem, (∀ a, a < p + 1 ∨ p + 7 < a → M2 a = M a) → BXM M2 (p + 1) (S 0) (bxS S b d v) → P M2) → w_X3_swingUp (p + 1) (nI b) M1 P := by
          intro P hP
          refine pw_swing hB (by omega) h7 (fun M2 f2 b2 => hP M2 (fun a ha => ?_) b2)
          rw [f2 a (by omega), hF a (by omega)]
        refine pw_inUpper hC1 hS hB bF h7 ?_
        rw [nI_z n1]
        refine ⟨fun u1 => ?_, fun u1 => ?_⟩
        · refine pw_inLower hB bF h7 ?_
          rw [nI_z n3]
          refine ⟨fun l1 => ?_, fun l1 => ?_⟩
          · refine sw (fun M2 f2 b2 => ?_)
            exact ⟨fun x => absurd rfl x, fun _ => rest 0 (Or.inl ⟨rfl, l1⟩) u1 M2 f2 b2⟩
          · refine sw (fun M2 f2 b2 => ?_)
            exact ⟨fun x => absurd rfl x, fun _ => rest 1 (Or.inr ⟨rfl, l1⟩) u1 M2 f2 b2⟩
        · rw [if_pos (Or.inl u1)] at er
          refine pw_inLower hB bF h7 ?_
          rw [nI_z n3]
          have hq4 : ∀ M2 : Mem, (∀ a, a < p + 1 ∨ p + 7 < a → M2 a = M a) → Q (nI 4) M2 := fun M2 f2 => by
            have := hQ M2 f2
            rw [er] at this
            exact this
          refine ⟨fun l1 => ?_, fun l1 => ?_⟩
          · refine sw (fun M2 f2 b2 => ?_)
            exact ⟨fun _ => hq4 M2 f2, fun x => absurd x (by decide)⟩
          · refine sw (fun M2 f2 b2 => ?_)
            exact ⟨fun _ => hq4 M2 f2, fun x => absurd x (by decide)⟩
      · have hq := hQ M (fun _ _ => rfl)
        have : rsn S b d v = 3 := by
          unfold rsn
          rw [if_neg c1, if_neg c2, if_pos (show clm S b d < S 20 from Nat.not_le.mp c3)]
        rw [this] at hq
        exact hq
    · have hq := hQ M (fun _ _ => rfl)
      have : rsn S b d v = 2 := by
        unfold rsn
        rw [if_neg c1, if_pos c2]
      rw [this] at hq
      exact hq
  · have hq := hQ M (fun _ _ => rfl)
    have : rsn S b d v = 1 := by
      unfold rsn
      rw [if_pos c1]
    rw [this] at hq
    exact hq
def stkS (S : Nat → Nat) (b d v : Nat) : Nat := bsB (fun f => uppB S (bxF S b d v f) || uppB S (bxS S b d v f)) (S 0 + 1)
theorem pw_strikersC {M : Mem} {p r b d v : Nat} {S : Nat → Nat} {Q : Int32 → Mem → Prop} (hr : r + 2 < p + 1 ∨ p + 7 < r) (hS : CV S) (hC : CC M r S) (hb : b < S 0) (hd : d < 128) (hv : v ≤ 1) (hQ : ∀ M', (∀ a, a < p + 1 ∨ p + 7 < a → M' a = M a) → Q (nI (stkS S b d v)) M') : w_X2_upperStrikers p r (nI b) (nI d) (nI v) M Q := by
  unfold w_X2_upperStrikers
  have h7 := hS.1.2
  refine pw_layFlat (by omega) hS hC hb hd hv (fun M1 hL => ?_)
  obtain ⟨hB, -, hF⟩ := hL
  have hC1 : CC M1 r S := hC.kept (hF _ (by omega)) (hF _ (by omega)) (hF _ (by omega))
  refine pw_inUpper hC1 hS hB (bxF_bd hS hb) h7 ?_
  refine pw_swing hB (by omega) h7 (fun M2 f2 b2 => ?_)
  have hM2 : ∀ a, a < p + 1 ∨ p + 7 < a → M2 a = M a := fun a ha => by rw [f2 a (by omega), hF a (by omega)]
  have hC2 : CC M2 r S := hC.kept (hM2 _ (by omega)) (hM2 _ (by omega)) (hM2 _ (by omega))
  refine pw_inUpper hC2 hS b2 (bxS_bd hS hb) h7 ?_
  rw [nI_or, bsB_or]
  exact hQ M2 hM2
theorem pw_farEnd {M : Mem} {p r b d v f e : Nat} {S : Nat → Nat} {Q : Int32 → Mem → Prop} (hr : r + 2 < p + 1 ∨ p + 7 < r) (hS : CV S) (hC : CC M r S) (hb : b < S 0) (hf : f ≤ S 0) (hd : d < 128) (hv : v ≤ 1) (he : e ≤ 1) (hd2 : M r 2 = nI d) (hv2 : M r 3 = nI v) (hQ : ∀ M', (∀ a, a < p + 1 ∨ p + 7 < a → M' a = M a) → Q (iI (if e = 1 then (gE S b d v f).2 else (gE S b d v f).1)) M') : w_X2_farEnd p r (nI b) (nI f) (nI e) M Q := by
  unfold w_X2_farEnd
  have h7 := hS.1.2
  rw [hd2, hv2]
  refine pw_layFlat (by omega) hS hC hb hd hv (fun M1 hL => ?_)
  obtain ⟨-, hE, hF⟩ := hL
  have hq := hQ M1 (fun a ha => hF a (by omega))
  refine ⟨fun c => ?_, fun c => ?_⟩
  · have e0 : e = 0 := (nI_z (by omega)).mp c
    rw [if_neg (by omega)] at hq
    unfold w_X3_farEndX
    refine ⟨fun z => absurd z (nI_neg (by omega)), fun _ => ⟨fun z => ?_, fun _ => ⟨vp_in_nI (by omega) (by decide), ?_⟩⟩⟩
    · rw [nI_leI (by decide) (by omega)] at z; omega
    · rw [nI_clamp (by omega), (hE f hf).1]; exact hq
  · have e0 : e = 1 := by
      rcases (show e = 0 ∨ e = 1 by omega) with y | y
      · rw [y] at c; exact absurd rfl c
      · exact y
    rw [if_pos e0] at hq
    unfold w_X3_farEndY
    refine ⟨fun z => absurd z (nI_neg (by omega)), fun _ => ⟨fun z => ?_, fun _ => ⟨vp_in_nI (by omega) (by decide), ?_⟩⟩⟩
    · rw [nI_leI (by decide) (by omega)] at z; omega
    · rw [nI_clamp (by omega), (hE f hf).2]; exact hq
theorem nI_or0 (u : Nat) : nI u ||| nI 0 = nI u := by rw [nI_or, Nat.or_zero]
theorem rsn_le (S : Nat → Nat) (b d v : Nat) : rsn S b d v ≤ 6 := by
  unfold rsn
  repeat' split
  all_goals omega
theorem rsn_0 {S : Nat → Nat} {b d v : Nat} (h : rsn S b d v = 0) : d.testBit b = false := by
  unfold rsn at h
  by_cases c : d.testBit b = true
  · rw [if_pos c] at h; cases h
  · simpa using c
theorem iI_sub (a b : Int) : iI a - iI b = iI (a - b) := (Int32.ofInt_sub a b).symm
