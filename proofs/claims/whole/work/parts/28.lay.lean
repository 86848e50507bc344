/-! the class's shape: boxes -/
def iI (x : Int) : Int32 := Int32.ofInt x
theorem iI_nat (n : Nat) : iI (n : Int) = nI n := Int32.ofInt_eq_ofNat
theorem iI_add (a b : Int) : iI a + iI b = iI (a + b) := (Int32.ofInt_add a b).symm
theorem iI_mul (a b : Int) : iI a * iI b = iI (a * b) := (Int32.ofInt_mul a b).symm
theorem iI_neg (a : Int) : -iI a = iI (-a) := (Int32.ofInt_neg a).symm
theorem iI_toInt {a : Int} (h : -10000 ≤ a ∧ a ≤ 10000) : (iI a).toInt = a := Int32.toInt_ofInt_of_le (by omega) (by omega)
theorem iI_le {a b : Int} (ha : -10000 ≤ a ∧ a ≤ 10000) (hb : -10000 ≤ b ∧ b ≤ 10000) : iI a ≤ iI b ↔ a ≤ b := by
  rw [Int32.le_iff_toInt_le, iI_toInt ha, iI_toInt hb]
theorem iI_lt {a b : Int} (ha : -10000 ≤ a ∧ a ≤ 10000) (hb : -10000 ≤ b ∧ b ≤ 10000) : iI a < iI b ↔ a < b := by
  rw [Int32.lt_iff_toInt_lt, iI_toInt ha, iI_toInt hb]
theorem iI_eq {a b : Int} (ha : -10000 ≤ a ∧ a ≤ 10000) (hb : -10000 ≤ b ∧ b ≤ 10000) : iI a = iI b ↔ a = b :=
  ⟨fun h => by rw [← iI_toInt ha, ← iI_toInt hb, h], fun h => by rw [h]⟩
theorem iI_0 : iI 0 = 0 := by decide
theorem gd_turn : ∀ w, w < 4 → gdx ((w + 1) % 4) = -gdy w ∧ gdy ((w + 1) % 4) = gdx w ∧ gdx ((w + 3) % 4) = gdy w ∧ gdy ((w + 3) % 4) = -gdx w := by decide
theorem gd_in : ∀ w, (gdx w = 0 ∨ gdx w = 1 ∨ gdx w = -1) ∧ (gdy w = 0 ∨ gdy w = 1 ∨ gdy w = -1) := by
  intro w
  unfold gdx gdy
  refine ⟨?_, ?_⟩ <;> (split <;> (try split) <;> simp)
theorem gR_w (S : Nat → Nat) (b d v : Nat) : ∀ i, (gR S b d v i).2.2 < 4
  | 0 => (show (0 : Nat) < 4 by decide)
  | i + 1 => Nat.mod_lt _ (by decide)
theorem gL_w (S : Nat → Nat) (b d v : Nat) : ∀ i, (gL S b d v i).2.2 < 4
  | 0 => (show (2 : Nat) < 4 by decide)
  | i + 1 => Nat.mod_lt _ (by decide)
theorem gR_bd {S : Nat → Nat} (hS : CV S) (b d v : Nat) : ∀ i, b + i ≤ S 0 → (-(9 * i : Int) ≤ (gR S b d v i).1 ∧ (gR S b d v i).1 ≤ 9 * i) ∧ (-(9 * i : Int) ≤ (gR S b d v i).2.1 ∧ (gR S b d v i).2.1 ≤ 9 * i) := by
  intro i
  induction i with
  | zero => intro _; simp [gR]
  | succ i ih =>
    intro hi
    have h := ih (by omega)
    have hl := hS.2.1 (b + 1 + i) (by omega)
    have g := gd_in (gR S b d v i).2.2
    have e1 : (gR S b d v (i + 1)).1 = (gR S b d v i).1 + (S (1 + (b + 1 + i)) : Int) * gdx (gR S b d v i).2.2 := rfl
    have e2 : (gR S b d v (i + 1)).2.1 = (gR S b d v i).2.1 + (S (1 + (b + 1 + i)) : Int) * gdy (gR S b d v i).2.2 := rfl
    rw [e1, e2]
    obtain ⟨g1, g2⟩ := g
    refine ⟨?_, ?_⟩
    · rcases g1 with g1 | g1 | g1 <;> (rw [g1]; omega)
    · rcases g2 with g2 | g2 | g2 <;> (rw [g2]; omega)
theorem gL_bd {S : Nat → Nat} (hS : CV S) (b d v : Nat) (hb : b < S 0) : ∀ i, i ≤ b + 1 → (-(9 * i : Int) ≤ (gL S b d v i).1 ∧ (gL S b d v i).1 ≤ 9 * i) ∧ (-(9 * i : Int) ≤ (gL S b d v i).2.1 ∧ (gL S b d v i).2.1 ≤ 9 * i) := by
  intro i
  induction i with
  | zero => intro _; simp [gL]
  | succ i ih =>
    intro hi
    have h := ih (by omega)
    have hl := hS.2.1 (b - i) (by omega)
    have g := gd_in (gL S b d v i).2.2
    have e1 : (gL S b d v (i + 1)).1 = (gL S b d v i).1 + (S (1 + (b - i)) : Int) * gdx (gL S b d v i).2.2 := rfl
    have e2 : (gL S b d v (i + 1)).2.1 = (gL S b d v i).2.1 + (S (1 + (b - i)) : Int) * gdy (gL S b d v i).2.2 := rfl
    rw [e1, e2]
    obtain ⟨g1, g2⟩ := g
    refine ⟨?_, ?_⟩
    · rcases g1 with g1 | g1 | g1 <;> (rw [g1]; omega)
    · rcases g2 with g2 | g2 | g2 <;> (rw [g2]; omega)
theorem gF_bd {S : Nat → Nat} (hS : CV S) {b d v f : Nat} (hb : b < S 0) (hf : f ≤ S 0) : (-63 ≤ (gF S b d v f).1 ∧ (gF S b d v f).1 ≤ 63) ∧ (-63 ≤ (gF S b d v f).2.1 ∧ (gF S b d v f).2.1 ≤ 63) := by
  have h7 := hS.1.2
  unfold gF
  by_cases c : b < f
  · rw [if_pos c]
    have := gR_bd hS b d v (f - b - 1) (by omega)
    omega
  · rw [if_neg c]
    have := gL_bd hS b d v hb (b - f) (by omega)
    omega
/-- a flange's end, farther from the tool -/
def gE (S : Nat → Nat) (b d v f : Nat) : Int × Int := ((gF S b d v f).1 + (S (1 + f) : Int) * gdx (gF S b d v f).2.2, (gF S b d v f).2.1 + (S (1 + f) : Int) * gdy (gF S b d v f).2.2)
theorem gE_bd {S : Nat → Nat} (hS : CV S) {b d v f : Nat} (hb : b < S 0) (hf : f ≤ S 0) : (-72 ≤ (gE S b d v f).1 ∧ (gE S b d v f).1 ≤ 72) ∧ (-72 ≤ (gE S b d v f).2 ∧ (gE S b d v f).2 ≤ 72) := by
  have h := gF_bd hS (d := d) (v := v) hb hf
  have hl := hS.2.1 f hf
  obtain ⟨g1, g2⟩ := gd_in (gF S b d v f).2.2
  unfold gE
  refine ⟨?_, ?_⟩
  · rcases g1 with g1 | g1 | g1 <;> (rw [g1]; omega)
  · rcases g2 with g2 | g2 | g2 <;> (rw [g2]; omega)
def BXM (M : Mem) (h n : Nat) (B : Nat → BX) : Prop := M h 0 = nI (n + 1) ∧ ∀ f, f ≤ n → M (h + 1) f = iI (B f).1.1 ∧ M (h + 2) f = iI (B f).1.2 ∧ M (h + 3) f = iI (B f).2.1 ∧ M (h + 4) f = iI (B f).2.2
def BBd (n : Nat) (B : Nat → BX) : Prop := ∀ f, f ≤ n → (-72 ≤ (B f).1.1 ∧ (B f).1.1 ≤ 72) ∧ (-72 ≤ (B f).1.2 ∧ (B f).1.2 ≤ 72) ∧ (-72 ≤ (B f).2.1 ∧ (B f).2.1 ≤ 72) ∧ (-72 ≤ (B f).2.2 ∧ (B f).2.2 ≤ 72)
theorem bxF_bd {S : Nat → Nat} (hS : CV S) {b d v : Nat} (hb : b < S 0) : BBd (S 0) (bxF S b d v) := by
  intro f hf
  have h1 := gF_bd hS (d := d) (v := v) hb hf
  have h2 := gE_bd hS (d := d) (v := v) hb hf
  unfold gE at h2
  unfold bxF
  dsimp only at h2 ⊢
  omega
theorem bxS_bd {S : Nat → Nat} (hS : CV S) {b d v : Nat} (hb : b < S 0) : BBd (S 0) (bxS S b d v) := by
  intro f hf
  have h1 := bxF_bd hS (d := d) (v := v) hb f hf
  unfold bxS
  split
  · dsimp only; omega
  · exact h1
theorem cstore {c vp : Prop} {a b : Int32} {P : Mem → Prop} {M : Mem} {k f : Nat} (hv : vp) (h : ∀ v, (c → v = a) → (¬ c → v = b) → ∀ M', M' = um M k (upd (M k) f v) → P M') : (c → (vp ∧ ∀ M8 : Mem, M8 = um M k (upd (M k) f a) → P M8)) ∧ (¬ c → (vp ∧ ∀ M8 : Mem, M8 = um M k (upd (M k) f b) → P M8)) :=
  ⟨fun hc => ⟨hv, h a (fun _ => rfl) (fun z => absurd hc z)⟩, fun hc => ⟨hv, h b (fun z => absurd z hc) (fun _ => rfl)⟩⟩
theorem pw_draw {M : Mem} {h f L : Nat} {x y sx sy : Int} {Q : Mem → Prop} (hf : f < 8) (hL : L ≤ 9) (hx : M h 1 = iI x) (hy : M h 2 = iI y) (hsx : M h 3 = iI sx) (hsy : M h 4 = iI sy) (bx : sx = 0 ∨ sx = 1 ∨ sx = -1) (by_ : sy = 0 ∨ sy = 1 ∨ sy = -1)
    (hQ : ∀ M' : Mem, (∀ a, a < h ∨ h + 6 < a → M' a = M a) → (∀ s, s ≠ 1 → s ≠ 2 → M' h s = M h s) → M' h 1 = iI (x + (L : Int) * sx) → M' h 2 = iI (y + (L : Int) * sy) →
      (∀ i g, 1 ≤ i → i ≤ 6 → g ≠ f → M' (h + i) g = M (h + i) g) → M' (h + 1) f = iI (min x (x + (L : Int) * sx)) → M' (h + 2) f = iI (max x (x + (L : Int) * sx)) → M' (h + 3) f = iI (min y (y + (L : Int) * sy)) → M' (h + 4) f = iI (max y (y + (L : Int) * sy)) → M' (h + 5) f = iI (x + (L : Int) * sx) → M' (h + 6) f = iI (y + (L : Int) * sy) → Q M') : w_X3_draw h (nI f) (nI L) M Q := by
  unfold w_X3_draw
  have hv : vp_in (nI f) 8 := vp_in_nI hf (by decide)
  rw [nI_clamp (by omega)]
  refine ⟨fun c => absurd c (nI_neg (by omega)), fun _ => ⟨fun _ => ?_, fun c => ?_⟩⟩
  · rintro _ rfl _ rfl M5 h5 M6 h6
    refine cstore hv (fun v1 a1 b1 M7 h7 => ?_)
    refine cstore hv (fun v2 a2 b2 M8 h8 => ?_)
    refine cstore hv (fun v3 a3 b3 M9 h9 => ?_)
    refine cstore hv (fun v4 a4 b4 M10 h10 => ?_)
    refine ⟨hv, fun M11 h11 => ⟨hv, fun M12 h12 => ?_⟩⟩
    have e6x : M6 h 1 = iI (x + (L : Int) * sx) := by
      rw [h6, um_s, upd_n (by decide), h5, um_s, upd_s, hx, hsx, ← iI_nat, iI_mul, iI_add, Int.mul_comm]
    have e6y : M6 h 2 = iI (y + (L : Int) * sy) := by
      rw [h6, um_s, upd_s, h5, um_s, upd_n (by decide), upd_n (by decide), hy, hsy, ← iI_nat, iI_mul, iI_add, Int.mul_comm]
    have e6s : ∀ s, s ≠ 1 → s ≠ 2 → M6 h s = M h s := fun s s1 s2 => by rw [h6, um_s, upd_n s2, h5, um_s, upd_n s1]
    have e6a : ∀ a, a ≠ h → M6 a = M a := fun a ha => by rw [h6, um_n ha, h5, um_n ha]
    have n1 : h ≠ h + 1 := by omega
    have n2 : h ≠ h + 2 := by omega
    have n3 : h ≠ h + 3 := by omega
    have n4 : h ≠ h + 4 := by omega
    have n5 : h ≠ h + 5 := by omega
    have n6 : h ≠ h + 6 := by omega
    have e7 : M7 h = M6 h := by rw [h7, um_n n1]
    have e8 : M8 h = M6 h := by rw [h8, um_n n2, e7]
    have e9 : M9 h = M6 h := by rw [h9, um_n n3, e8]
    have e10 : M10 h = M6 h := by rw [h10, um_n n4, e9]
    have e11 : M11 h = M6 h := by rw [h11, um_n n5, e10]
    have e12 : M12 h = M6 h := by rw [h12, um_n n6, e11]
    have s3 : M6 h 3 = iI sx := by rw [e6s 3 (by decide) (by decide)]; exact hsx
    have s4 : M6 h 4 = iI sy := by rw [e6s 4 (by decide) (by decide)]; exact hsy
    have px : (0 ≤ iI sx ↔ 0 ≤ sx) := by rw [← iI_0]; exact iI_le (by omega) (by omega)
    have py : (0 ≤ iI sy ↔ 0 ≤ sy) := by rw [← iI_0]; exact iI_le (by omega) (by omega)
    rw [s3] at a1 b1
    rw [e7, s3] at a2 b2
    rw [e8, s4] at a3 b3
    rw [e9, s4] at a4 b4
    rw [px] at a1 b1 a2 b2
    rw [py] at a3 b3 a4 b4
    have w1 : v1 = iI (min x (x + (L : Int) * sx)) := by
      by_cases c : 0 ≤ sx
      · rw [a1 c, hx]; congr 1; rcases bx with q | q | q <;> (subst q; omega)
      · rw [b1 c, e6x]; congr 1; rcases bx with q | q | q <;> (subst q; omega)
    have w2 : v2 = iI (max x (x + (L : Int) * sx)) := by
      by_cases c : 0 ≤ sx
      · rw [a2 c, e6x]; congr 1; rcases bx with q | q | q <;> (subst q; omega)
      · rw [b2 c, hx]; congr 1; rcases bx with q | q | q <;> (subst q; omega)
    have w3 : v3 = iI (min y (y + (L : Int) * sy)) := by
      by_cases c : 0 ≤ sy
      · rw [a3 c, hy]; congr 1; rcases by_ with q | q | q <;> (subst q; omega)
      · rw [b3 c, e6y]; congr 1; rcases by_ with q | q | q <;> (subst q; omega)
    have w4 : v4 = iI (max y (y + (L : Int) * sy)) := by
      by_cases c : 0 ≤ sy
      · rw [a4 c, e6y]; congr 1; rcases by_ with q | q | q <;> (subst q; omega)
      · rw [b4 c, hy]; congr 1; rcases by_ with q | q | q <;> (subst q; omega)
    rw [e10, e6x] at h11
    rw [e11, e6y] at h12
    have far : ∀ a, a ≠ h + 1 → a ≠ h + 2 → a ≠ h + 3 → a ≠ h + 4 → a ≠ h + 5 → a ≠ h + 6 → M12 a = M6 a := fun a q1 q2 q3 q4 q5 q6 => by rw [h12, um_n q6, h11, um_n q5, h10, um_n q4, h9, um_n q3, h8, um_n q2, h7, um_n q1]
    have m : ∀ i j : Nat, i ≠ j → h + i ≠ h + j := fun i j q => by omega
    refine hQ M12 (fun a ha => ?_) (fun s q1 q2 => ?_) ?_ ?_ (fun i g i1 i6 hg => ?_) ?_ ?_ ?_ ?_ ?_ ?_
    · rw [far a (by omega) (by omega) (by omega) (by omega) (by omega) (by omega)]; exact e6a a (by omega)
    · rw [e12]; exact e6s s q1 q2
    · rw [e12]; exact e6x
    · rw [e12]; exact e6y
    · have ea : M6 (h + i) = M (h + i) := e6a _ (by omega)
      rw [← ea]
      rcases (show i = 1 ∨ i = 2 ∨ i = 3 ∨ i = 4 ∨ i = 5 ∨ i = 6 by omega) with q | q | q | q | q | q <;> subst q
      · rw [h12, um_n (m _ _ (by decide)), h11, um_n (m _ _ (by decide)), h10, um_n (m _ _ (by decide)), h9, um_n (m _ _ (by decide)), h8, um_n (m _ _ (by decide)), h7, um_s, upd_n hg]
      · rw [h12, um_n (m _ _ (by decide)), h11, um_n (m _ _ (by decide)), h10, um_n (m _ _ (by decide)), h9, um_n (m _ _ (by decide)), h8, um_s, upd_n hg, h7, um_n (m _ _ (by decide))]
      · rw [h12, um_n (m _ _ (by decide)), h11, um_n (m _ _ (by decide)), h10, um_n (m _ _ (by decide)), h9, um_s, upd_n hg, h8, um_n (m _ _ (by decide)), h7, um_n (m _ _ (by decide))]
      · rw [h12, um_n (m _ _ (by decide)), h11, um_n (m _ _ (by decide)), h10, um_s, upd_n hg, h9, um_n (m _ _ (by decide)), h8, um_n (m _ _ (by decide)), h7, um_n (m _ _ (by decide))]
      · rw [h12, um_n (m _ _ (by decide)), h11, um_s, upd_n hg, h10, um_n (m _ _ (by decide)), h9, um_n (m _ _ (by decide)), h8, um_n (m _ _ (by decide)), h7, um_n (m _ _ (by decide))]
      · rw [h12, um_s, upd_n hg, h11, um_n (m _ _ (by decide)), h10, um_n (m _ _ (by decide)), h9, um_n (m _ _ (by decide)), h8, um_n (m _ _ (by decide)), h7, um_n (m _ _ (by decide))]
    · rw [h12, um_n (m _ _ (by decide)), h11, um_n (m _ _ (by decide)), h10, um_n (m _ _ (by decide)), h9, um_n (m _ _ (by decide)), h8, um_n (m _ _ (by decide)), h7, um_s, upd_s, w1]
    · rw [h12, um_n (m _ _ (by decide)), h11, um_n (m _ _ (by decide)), h10, um_n (m _ _ (by decide)), h9, um_n (m _ _ (by decide)), h8, um_s, upd_s, w2]
    · rw [h12, um_n (m _ _ (by decide)), h11, um_n (m _ _ (by decide)), h10, um_n (m _ _ (by decide)), h9, um_s, upd_s, w3]
    · rw [h12, um_n (m _ _ (by decide)), h11, um_n (m _ _ (by decide)), h10, um_s, upd_s, w4]
    · rw [h12, um_n (m _ _ (by decide)), h11, um_s, upd_s]
    · rw [h12, um_s, upd_s]
  · rw [nI_ltI (by omega) (by decide)] at c; omega
theorem pw_turnAt {M : Mem} {h j bent cc w : Nat} {Q : Mem → Prop} (hj : j < 8) (hb : bent < 128) (hc : cc ≤ 1) (hw : w < 4) (h3 : M h 3 = iI (gdx w)) (h4 : M h 4 = iI (gdy w))
    (hQ : ∀ (M' : Mem) (w' : Nat), w' = (if bent.testBit j then (w + (if cc = 1 then 1 else 3)) % 4 else w) → w' < 4 → (∀ a, a ≠ h → M' a = M a) → (∀ s, s ≠ 3 → s ≠ 4 → M' h s = M h s) → M' h 3 = iI (gdx w') → M' h 4 = iI (gdy w') → Q M') : w_X3_turnAt h (nI j) (nI bent) (nI cc) M Q := by
  unfold w_X3_turnAt
  rw [bit_get bent hb j hj]
  have t := gd_turn w hw
  by_cases c : bent.testBit j = true
  · rw [if_pos c]
    refine ⟨fun _ => ?_, fun z => absurd z (by decide)⟩
    rintro _ rfl
    refine ⟨fun z => ?_, fun z => ?_⟩
    · have e0 : cc = 0 := (nI_z (by omega)).mp z
      rintro M4 hM4
      refine ⟨fun _ => ?_, fun y => absurd z y⟩
      rintro M6 hM6
      refine hQ M6 _ rfl ?_ (fun a ha => by rw [hM6, um_n ha, hM4, um_n ha]) (fun s s3 s4 => by rw [hM6, um_s, upd_n s4, hM4, um_s, upd_n s3]) ?_ ?_
      · rw [if_pos c]; exact Nat.mod_lt _ (by decide)
      · rw [if_pos c, if_neg (by omega), t.2.2.1, hM6, um_s, upd_n (by decide), hM4, um_s, upd_s, h4]
      · rw [if_pos c, if_neg (by omega), t.2.2.2, hM6, um_s, upd_s, h3, iI_neg]
    · have e0 : cc = 1 := by
        rcases (show cc = 0 ∨ cc = 1 by omega) with y | y
        · rw [y] at z; exact absurd rfl z
        · exact y
      rintro M4 hM4
      refine ⟨fun y => absurd y z, fun _ => ?_⟩
      rintro M6 hM6
      refine hQ M6 _ rfl ?_ (fun a ha => by rw [hM6, um_n ha, hM4, um_n ha]) (fun s s3 s4 => by rw [hM6, um_s, upd_n s4, hM4, um_s, upd_n s3]) ?_ ?_
      · rw [if_pos c]; exact Nat.mod_lt _ (by decide)
      · rw [if_pos c, if_pos e0, t.1, hM6, um_s, upd_n (by decide), hM4, um_s, upd_s, h4, iI_neg]
      · rw [if_pos c, if_pos e0, t.2.1, hM6, um_s, upd_s, h3]
  · rw [if_neg c]
    refine ⟨fun z => absurd rfl z, fun _ => ?_⟩
    exact hQ M w (by rw [if_neg c]) hw (fun _ _ => rfl) (fun _ _ _ => rfl) h3 h4
/-- what the laying leaves behind -/
def LAID (M M' : Mem) (h : Nat) (S : Nat → Nat) (b d v : Nat) : Prop := BXM M' h (S 0) (bxF S b d v) ∧ (∀ f, f ≤ S 0 → M' (h + 5) f = iI (gE S b d v f).1 ∧ M' (h + 6) f = iI (gE S b d v f).2) ∧ ∀ a, a < h ∨ h + 6 < a → M' a = M a
def DRAWN (M : Mem) (h : Nat) (S : Nat → Nat) (b d v f : Nat) : Prop := (M (h + 1) f = iI (bxF S b d v f).1.1 ∧ M (h + 2) f = iI (bxF S b d v f).1.2 ∧ M (h + 3) f = iI (bxF S b d v f).2.1 ∧ M (h + 4) f = iI (bxF S b d v f).2.2) ∧ M (h + 5) f = iI (gE S b d v f).1 ∧ M (h + 6) f = iI (gE S b d v f).2
theorem DRAWN.kept {M M' : Mem} {h : Nat} {S : Nat → Nat} {b d v f : Nat} (hD : DRAWN M h S b d v f) (e : ∀ i, 1 ≤ i → i ≤ 6 → M' (h + i) f = M (h + i) f) : DRAWN M' h S b d v f := by
  unfold DRAWN
  rw [e 1 (by decide) (by decide), e 2 (by decide) (by decide), e 3 (by decide) (by decide), e 4 (by decide) (by decide), e 5 (by decide) (by decide), e 6 (by decide) (by decide)]
  exact hD
theorem pw_startAt {M : Mem} {h : Nat} {a : Int32} {Q : Mem → Prop} (hQ : ∀ M' : Mem, (∀ c, c ≠ h → M' c = M c) → M' h 0 = M h 0 → M' h 1 = iI 0 → M' h 2 = iI 0 → M' h 3 = a → M' h 4 = iI 0 → Q M') : w_X3_startAtTool h a M Q := by
  unfold w_X3_startAtTool
  rintro M1 h1 M2 h2 M3 h3 M4 h4
  refine hQ M4 (fun c hc => by rw [h4, um_n hc, h3, um_n hc, h2, um_n hc, h1, um_n hc]) ?_ ?_ ?_ ?_ ?_
  · rw [h4, um_s, upd_n (by decide), h3, um_s, upd_n (by decide), h2, um_s, upd_n (by decide), h1, um_s, upd_n (by decide)]
  · rw [h4, um_s, upd_n (by decide), h3, um_s, upd_n (by decide), h2, um_s, upd_n (by decide), h1, um_s, upd_s]; rfl
  · rw [h4, um_s, upd_n (by decide), h3, um_s, upd_n (by decide), h2, um_s, upd_s]; rfl
  · rw [h4, um_s, upd_n (by decide), h3, um_s, upd_s]
  · rw [h4, um_s, upd_s]; rfl
theorem pw_isUpC {M : Mem} {r b : Nat} {S : Nat → Nat} {Q : Int32 → Mem → Prop} (hC : CC M r S) (hS : CV S) (hb : b < S 0) (h : Q (nI (S (9 + b))) M) : w_X4_isUp r (nI b) M Q := by
  unfold w_X4_isUp
  have h1 := hS.2.2.1 b hb
  rw [hC.2.1 b hb, show (if S (9 + b) = 1 then 1 else 0) = S (9 + b) by split <;> omega]
  refine ⟨fun c => ?_, fun c => ?_⟩
  · have : S (9 + b) = 0 := by
      rcases (show S (9 + b) = 0 ∨ S (9 + b) = 1 by omega) with y | y
      · exact y
      · rw [y] at c; exact absurd rfl c
    rw [this] at h
    exact h
  · have : S (9 + b) = 1 := nI_inj (by omega) (by decide) c
    rw [this] at h
    exact h
theorem gF_R {S : Nat → Nat} {b d v i : Nat} : gF S b d v (b + 1 + i) = gR S b d v i := by
  unfold gF
  rw [if_pos (by omega), show b + 1 + i - b - 1 = i by omega]
theorem gF_L {S : Nat → Nat} {b d v i : Nat} (h : i ≤ b) : gF S b d v (b - i) = gL S b d v i := by
  unfold gF
  rw [if_neg (by omega), show b - (b - i) = i by omega]
theorem lq_lay34 {M0 : Mem} {h r b d v bent : Nat} {S : Nat → Nat} {K : Int32 → Mem → Prop} (hr : r + 2 < h ∨ h + 6 < r) (hS : CV S) (hC : CC M0 r S) (hb : b < S 0) (hbent : bent < 128) (hbt : ∀ j, j < 7 → bent.testBit j = (d.testBit j && !decide (j = b))) (hv : v ≤ 1)
    (hK : ∀ M : Mem, (∀ a, a < h ∨ h + 6 < a → M a = M0 a) → M h 0 = nI (S 0 + 1) → (∀ f, b < f → f ≤ S 0 → DRAWN M h S b d v f) → K (nI (S 0 + 1)) M) :
    ∀ (n i : Nat) (w : Nat) (M : Mem), b + 1 + i ≤ S 0 + 1 → S 0 + 2 ≤ n + (b + 1 + i) → (∀ a, a < h ∨ h + 6 < a → M a = M0 a) → M h 0 = nI (S 0 + 1) → w < 4 → (b + 1 + i ≤ S 0 → (if bent.testBit (b + i) then (w + (if S (9 + (b + i)) ≠ v then 1 else 3)) % 4 else w) = (gR S b d v i).2.2) → M h 1 = iI (gR S b d v i).1 → M h 2 = iI (gR S b d v i).2.1 → M h 3 = iI (gdx w) → M h 4 = iI (gdy w) → (∀ f, b < f → f < b + 1 + i → DRAWN M h S b d v f) → w_X3_layFlat_34 h r n (nI b) (nI v) (nI bent) (nI (b + 1 + i)) M K := by
  intro n
  have h7 := hS.1.2
  induction n with
  | zero => intro i w M h1 h2; omega
  | succ n ih =>
    intro i w M h1 h2 hM h0 hw hturn hx hy hsx hsy hD
    unfold w_X3_layFlat_34
    rw [h0]
    refine ⟨fun z => ?_, fun z => ?_⟩
    · rw [nI_leI (by omega) (by omega)] at z
      have e : b + 1 + i = S 0 + 1 := by omega
      rw [e]
      exact hK M hM h0 (fun f f1 f2 => hD f f1 (by omega))
    · rw [nI_leI (by omega) (by omega)] at z
      have hf : b + 1 + i ≤ S 0 := by omega
      have hCM : CC M r S := hC.kept (hM r (by omega)) (hM _ (by omega)) (hM _ (by omega))
      rw [pk_sub (by omega), show b + 1 + i - 1 = b + i by omega]
      refine pw_isUpC hCM hS (by omega) ?_
      have hu := hS.2.2.1 (b + i) (by omega)
      have body : ∀ cc : Nat, cc ≤ 1 → (cc = 1 ↔ S (9 + (b + i)) ≠ v) → w_X3_turnAt h (nI (b + i)) (nI bent) (nI cc) M (fun M10 => w_X4_lengthAt r (nI (b + 1 + i)) M10 (fun v12 M11 => w_X3_draw h (nI (b + 1 + i)) v12 M11 (fun M13 => ∀ y14 : Int32, y14 = nI (b + 1 + i) + (nI 1) → w_X3_layFlat_34 h r n (nI b) (nI v) (nI bent) y14 M13 K))) := by
        intro cc hcc hiff
        refine pw_turnAt (w := w) (by omega) hbent hcc hw hsx hsy (fun M1 w1 e1 w14 f1 f2 g3 g4 => ?_)
        have ew1 : w1 = (gR S b d v i).2.2 := by
          rw [e1, ← hturn hf]
          by_cases q : S (9 + (b + i)) ≠ v
          · rw [if_pos q, if_pos (hiff.mpr q)]
          · rw [if_neg q, if_neg (fun y => q (hiff.mp y))]
        subst ew1
        refine pw_lengthAt (by omega) ?_
        have eL : M1 (r + 1) (b + 1 + i) = nI (S (1 + (b + 1 + i))) := by rw [f1 _ (by omega)]; exact hCM.2.2.1 _ hf
        rw [eL]
        have hl := hS.2.1 _ hf
        obtain ⟨gx, gy⟩ := gd_in (gR S b d v i).2.2
        have k1 : M1 h 1 = iI (gR S b d v i).1 := by rw [f2 1 (by decide) (by decide)]; exact hx
        have k2 : M1 h 2 = iI (gR S b d v i).2.1 := by rw [f2 2 (by decide) (by decide)]; exact hy
        refine pw_draw (by omega) (by omega) k1 k2 g3 g4 gx gy (fun M2 a1 a2 a3 a4 a5 a6 a7 a8 a9 a10 a11 => ?_)
        rintro _ rfl
        rw [nI_add, show b + 1 + i + 1 = b + 1 + (i + 1) by omega]
        refine ih (i + 1) (gR S b d v i).2.2 M2 (by omega) (by omega) (fun a ha => by rw [a1 a ha, f1 a (by omega)]; exact hM a ha) (by rw [a2 0 (by decide) (by decide), f2 0 (by decide) (by decide)]; exact h0) w14 (fun hle => ?_) a3 a4 (by rw [a2 3 (by decide) (by decide)]; exact g3) (by rw [a2 4 (by decide) (by decide)]; exact g4) (fun f c1 c2 => ?_)
        · show _ = ((gR S b d v i).2.2 + gtr S d v (b + 1 + i) true) % 4
          rw [hbt _ (by omega)]
          unfold gtr
          rw [show b + (i + 1) = b + 1 + i by omega]
          by_cases q : d.testBit (b + 1 + i) = true
          · rw [q]
            have : ¬ (b + 1 + i = b) := by omega
            simp only [this, decide_false, Bool.not_false, Bool.and_true, if_true]
            congr 2
            by_cases p : S (9 + (b + 1 + i)) ≠ v
            · rw [if_pos p, if_pos (by simpa using p)]
            · rw [if_neg p, if_neg (by simpa using p)]
          · have q' : d.testBit (b + 1 + i) = false := by simpa using q
            rw [q']
            simp only [Bool.false_and, if_neg Bool.false_ne_true, Nat.add_zero]
            exact (Nat.mod_eq_of_lt w14).symm
        · by_cases q : f = b + 1 + i
          · subst q
            unfold DRAWN bxF gE
            rw [gF_R]
            exact ⟨⟨a6, a7, a8, a9⟩, a10, a11⟩
          · refine (hD f c1 (by omega)).kept (fun j j1 j6 => ?_)
            rw [a5 j f j1 j6 q, f1 _ (by omega)]
      refine ⟨fun e => ?_, fun e => ?_⟩
      · have e : S (9 + (b + i)) = v := nI_inj (by omega) (by omega) e
        exact body 0 (by decide) ⟨fun y => absurd y (by decide), fun y => absurd e y⟩
      · have e : S (9 + (b + i)) ≠ v := fun y => e (by rw [y])
        exact body 1 (by decide) ⟨fun _ => e, fun _ => rfl⟩
theorem lq_lay97 {M0 : Mem} {h r b d v bent : Nat} {S : Nat → Nat} {K : Int32 → Mem → Prop} (hr : r + 2 < h ∨ h + 6 < r) (hS : CV S) (hC : CC M0 r S) (hb : b < S 0) (hbent : bent < 128) (hbt : ∀ j, j < 7 → bent.testBit j = (d.testBit j && !decide (j = b))) (hv : v ≤ 1)
    (hK : ∀ M : Mem, (∀ a, a < h ∨ h + 6 < a → M a = M0 a) → M h 0 = nI (S 0 + 1) → (∀ f, f ≤ S 0 → DRAWN M h S b d v f) → K (-1) M) :
    ∀ (n i : Nat) (w : Nat) (M : Mem), i ≤ b → b + 2 ≤ n + i → (∀ a, a < h ∨ h + 6 < a → M a = M0 a) → M h 0 = nI (S 0 + 1) → w < 4 → (if bent.testBit (b - i) then (w + (if S (9 + (b - i)) ≠ v then 3 else 1)) % 4 else w) = (gL S b d v i).2.2 → M h 1 = iI (gL S b d v i).1 → M h 2 = iI (gL S b d v i).2.1 → M h 3 = iI (gdx w) → M h 4 = iI (gdy w) → (∀ f, b - i < f → f ≤ S 0 → DRAWN M h S b d v f) → w_X3_layFlat_97 h r n (nI v) (nI bent) (nI (b - i)) M K := by
  intro n
  have h7 := hS.1.2
  induction n with
  | zero => intro i w M h1 h2; omega
  | succ n ih =>
    intro i w M h1 h2 hM h0 hw hturn hx hy hsx hsy hD
    unfold w_X3_layFlat_97
    refine ⟨fun z => absurd z (nI_neg (by omega)), fun z => ?_⟩
    have hCM : CC M r S := hC.kept (hM r (by omega)) (hM _ (by omega)) (hM _ (by omega))
    refine pw_isUpC hCM hS (by omega) ?_
    have hu := hS.2.2.1 (b - i) (by omega)
    have body : ∀ cc : Nat, cc ≤ 1 → (cc = 1 ↔ ¬ S (9 + (b - i)) ≠ v) → w_X3_turnAt h (nI (b - i)) (nI bent) (nI cc) M (fun M10 => w_X4_lengthAt r (nI (b - i)) M10 (fun v12 M11 => w_X3_draw h (nI (b - i)) v12 M11 (fun M13 => ∀ y14 : Int32, y14 = nI (b - i) + (-1 : Int32) → w_X3_layFlat_97 h r n (nI v) (nI bent) y14 M13 K))) := by
      intro cc hcc hiff
      refine pw_turnAt (w := w) (by omega) hbent hcc hw hsx hsy (fun M1 w1 e1 w14 f1 f2 g3 g4 => ?_)
      have ew1 : w1 = (gL S b d v i).2.2 := by
        rw [e1, ← hturn]
        by_cases q : S (9 + (b - i)) ≠ v
        · rw [if_pos q, if_neg (fun y => hiff.mp y q)]
        · rw [if_neg q, if_pos (hiff.mpr q)]
      subst ew1
      refine pw_lengthAt (by omega) ?_
      have eL : M1 (r + 1) (b - i) = nI (S (1 + (b - i))) := by rw [f1 _ (by omega)]; exact hCM.2.2.1 _ (by omega)
      rw [eL]
      have hl := hS.2.1 (b - i) (by omega)
      obtain ⟨gx, gy⟩ := gd_in (gL S b d v i).2.2
      have k1 : M1 h 1 = iI (gL S b d v i).1 := by rw [f2 1 (by decide) (by decide)]; exact hx
      have k2 : M1 h 2 = iI (gL S b d v i).2.1 := by rw [f2 2 (by decide) (by decide)]; exact hy
      refine pw_draw (by omega) (by omega) k1 k2 g3 g4 gx gy (fun M2 a1 a2 a3 a4 a5 a6 a7 a8 a9 a10 a11 => ?_)
      rintro _ rfl
      have dn : ∀ f, b - i ≤ f → f ≤ S 0 → DRAWN M2 h S b d v f := by
        intro f c1 c2
        by_cases q : f = b - i
        · subst q
          unfold DRAWN bxF gE
          rw [gF_L h1]
          exact ⟨⟨a6, a7, a8, a9⟩, a10, a11⟩
        · refine (hD f (by omega) c2).kept (fun j j1 j6 => ?_)
          rw [a5 j f j1 j6 q, f1 _ (by omega)]
      have fr : ∀ a, a < h ∨ h + 6 < a → M2 a = M0 a := fun a ha => by rw [a1 a ha, f1 a (by omega)]; exact hM a ha
      have fz : M2 h 0 = nI (S 0 + 1) := by rw [a2 0 (by decide) (by decide), f2 0 (by decide) (by decide)]; exact h0
      by_cases hi : i = b
      · subst hi
        have e : nI (i - i) + (-1 : Int32) = -1 := by rw [Nat.sub_self]; decide
        rw [e]
        obtain ⟨n', hn'⟩ : ∃ n', n = n' + 1 := ⟨n - 1, by omega⟩
        subst hn'
        unfold w_X3_layFlat_97
        exact ⟨fun _ => hK M2 fr fz (fun f hf => dn f (by omega) hf), fun y => absurd (by decide) y⟩
      · rw [show b - i = b - (i + 1) + 1 by omega, pk_m1]
        refine ih (i + 1) (gL S b d v i).2.2 M2 (by omega) (by omega) fr fz w14 ?_ a3 a4 (by rw [a2 3 (by decide) (by decide)]; exact g3) (by rw [a2 4 (by decide) (by decide)]; exact g4) (fun f c1 c2 => dn f (by omega) c2)
        show _ = ((gL S b d v i).2.2 + gtr S d v (b - (i + 1)) false) % 4
        rw [hbt _ (by omega)]
        unfold gtr
        by_cases q : d.testBit (b - (i + 1)) = true
        · rw [q]
          have : ¬ (b - (i + 1) = b) := by omega
          simp only [this, decide_false, Bool.not_false, Bool.and_true, if_true]
          congr 2
          by_cases p : S (9 + (b - (i + 1))) ≠ v
          · rw [if_pos p, if_neg (by simpa using p)]
          · rw [if_neg p, if_pos (by simpa using p)]
        · have q' : d.testBit (b - (i + 1)) = false := by simpa using q
          rw [q']
          simp only [Bool.false_and, if_neg Bool.false_ne_true, Nat.add_zero]
          exact (Nat.mod_eq_of_lt w14).symm
    refine ⟨fun e => ?_, fun e => ?_⟩
    · have e : S (9 + (b - i)) ≠ v := fun y => e (by rw [y])
      exact body 0 (by decide) ⟨fun y => absurd y (by decide), fun y => absurd e y⟩
    · have e : S (9 + (b - i)) = v := nI_inj (by omega) (by omega) e
      exact body 1 (by decide) ⟨fun _ y => y e, fun _ => rfl⟩
theorem pw_layFlat {M : Mem} {h r b d v : Nat} {S : Nat → Nat} {Q : Mem → Prop} (hr : r + 2 < h ∨ h + 6 < r) (hS : CV S) (hC : CC M r S) (hb : b < S 0) (hd : d < 128) (hv : v ≤ 1) (hQ : ∀ M', LAID M M' h S b d v → Q M') : w_X3_layFlat h r (nI b) (nI d) (nI v) M Q := by
  have h7 := hS.1.2
  unfold w_X3_layFlat
  rw [bit_clr d hd b (by omega), hC.1, nI_add]
  rintro _ rfl _ rfl
  have e8 : (if nI 8 < nI (S 0 + 1) then nI 8 else nI (S 0 + 1)) = nI (S 0 + 1) := by
    rw [if_neg]
    rw [nI_ltI (by decide) (by omega)]
    omega
  rw [e8]
  rintro M1 hM1
  have b1 := bit_cl_lt d hd b (by omega)
  have b2 := fun j (hj : j < 7) => bit_cl_t d hd b (by omega) j hj
  generalize hbent : (if d.testBit b then d - 2 ^ b else d) = bent at b1 b2
  have b3 : ∀ j, j < 7 → bent.testBit j = (d.testBit j && !decide (j = b)) := fun j hj => by rw [b2 j hj, Bool.and_comm]
  have bb : bent.testBit b = false := by rw [b3 b (by omega)]; simp
  have fr1 : ∀ a, a ≠ h → M1 a = M a := fun a ha => by rw [hM1, um_n ha]
  have hC1 : CC M1 r S := hC.kept (fr1 _ (by omega)) (fr1 _ (by omega)) (fr1 _ (by omega))
  refine pw_startAt (fun M2 f2 z2 x2 y2 s2 t2 => ?_)
  rintro _ rfl
  rw [nI_add]
  have hC2 : CC M2 r S := hC1.kept (f2 _ (by omega)) (f2 _ (by omega)) (f2 _ (by omega))
  refine lq_lay34 (M0 := M2) (d := d) hr hS hC2 hb b1 b3 hv (fun M3 f3 z3 d3 => ?_) FU 0 0 M2 (by omega) (by show S 0 + 2 ≤ 1000 + _; omega) (fun _ _ => rfl) (by rw [z2, hM1, um_s, upd_s]) (by decide) (fun _ => ?_) x2 y2 (by rw [s2]; rfl) (by rw [t2]; rfl) (fun f c1 c2 => by omega)
  · refine pw_startAt (fun M4 f4 z4 x4 y4 s4 t4 => ?_)
    have hC4 : CC M4 r S := hC2.kept (by rw [f4 _ (by omega)]; exact f3 _ (by omega)) (by rw [f4 _ (by omega)]; exact f3 _ (by omega)) (by rw [f4 _ (by omega)]; exact f3 _ (by omega))
    have q := lq_lay97 (M0 := M4) (d := d) (K := fun _ M38 => Q M38) hr hS hC4 hb b1 b3 hv (fun M5 f5 z5 d5 => hQ M5 ⟨⟨z5, fun f hf => (d5 f hf).1⟩, fun f hf => (d5 f hf).2, fun a ha => by rw [f5 a ha, f4 a (by omega), f3 a ha, f2 a (by omega), fr1 a (by omega)]⟩) FU 0 2 M4 (Nat.zero_le _) (by show b + 2 ≤ 1000 + 0; omega) (fun _ _ => rfl) (by rw [z4]; exact z3) (by decide) (by rw [Nat.sub_zero, bb]; rfl) x4 y4 (by rw [s4]; rfl) (by rw [t4]; rfl) (fun f c1 c2 => by
      refine (d3 f (by omega) c2).kept (fun i i1 i6 => ?_)
      rw [f4 _ (by omega)])
    exact q
  · rw [show b + 0 = b from rfl, bb]
    rfl
