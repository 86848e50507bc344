/-! the reference's shape: points -/
def inB (B : BX) (x y : Int) : Prop := B.1.1 ≤ x ∧ x ≤ B.1.2 ∧ B.2.1 ≤ y ∧ y ≤ B.2.2
abbrev PTF : Type := Nat → Nat × Int × Int
/-- the first T points that are laid out -/
def PTX (M : Mem) (T : Nat) (P : PTF) : Prop := M 0 10 = nI T ∧ ∀ i, i < T → M 7 i = nI (P i).1 ∧ M 5 i = iI (P i).2.1 ∧ M 6 i = iI (P i).2.2
/-- the points of the flanges of D are laid out, and no others -/
def PTD (T : Nat) (P : PTF) (D : Nat → Prop) (B : Nat → BX) : Prop := (∀ i, i < T → D (P i).1 ∧ inB (B (P i).1) (P i).2.1 (P i).2.2) ∧ ∀ f, D f → ∀ x y, inB (B f) x y → ∃ i, i < T ∧ P i = (f, x, y)
def PTE (T : Nat) (P : PTF) (D : Nat → Prop) (E : Nat → Int × Int) : Prop := ∀ f, D f → ∃ i, i < T ∧ P i = (f, (E f).1, (E f).2) ∧ ∀ j, i < j → j < T → (P j).1 ≠ f
/-- what laying leaves as it was -/
def PFR (M M' : Mem) : Prop := (∀ a, a ≠ 0 → a ≠ 5 → a ≠ 6 → a ≠ 7 → M' a = M a) ∧ ∀ s, s ≠ 10 → M' 0 s = M 0 s
theorem PFR.refl (M : Mem) : PFR M M := ⟨fun _ _ _ _ _ => rfl, fun _ _ => rfl⟩
theorem PFR.trans {M M1 M2 : Mem} (h1 : PFR M M1) (h2 : PFR M1 M2) : PFR M M2 := ⟨fun a a0 a5 a6 a7 => (h2.1 a a0 a5 a6 a7).trans (h1.1 a a0 a5 a6 a7), fun s hs => (h2.2 s hs).trans (h1.2 s hs)⟩
theorem pt_step {n k f T w : Nat} {x1 x2 x3 x4 x8 : Int32} {ax ay : Int} {L : Nat} {M : Mem} {K : Int32 → Mem → Prop} (hf : f < 8) (hL : M 1 (1 + f) = nI L) (hL9 : L ≤ 9) (hk : k ≤ 10) (hT : M 0 10 = nI T) (hT8 : T < 80) (hw : w < 4)
    (hend : L < k → K (nI k) M)
    (h : k ≤ L → ∀ M' : Mem, M' 5 = upd (M 5) T (iI (ax + (k : Int) * gdx w)) → M' 6 = upd (M 6) T (iI (ay + (k : Int) * gdy w)) → M' 7 = upd (M 7) T (nI f) → M' 0 = upd (M 0) 10 (nI (T + 1)) → (∀ a, a ≠ 0 → a ≠ 5 → a ≠ 6 → a ≠ 7 → M' a = M a) → w_X7_laySide_107 n x1 x2 x3 x4 (nI w) (iI ax) (iI ay) x8 (nI f) (nI (k + 1)) M' K) :
    w_X7_laySide_107 (n + 1) x1 x2 x3 x4 (nI w) (iI ax) (iI ay) x8 (nI f) (nI k) M K := by
  unfold w_X7_laySide_107
  have hv0 : vp_in (nI T) 80 := vp_in_nI hT8 (by decide)
  rw [nI_add, nI_clamp (show 1 + f < 2 ^ 31 by omega), hL]
  refine ⟨vp_in_nI (by omega) (by decide), fun c => ?_, fun c => ?_⟩
  · rw [nI_ltI (by omega) (by omega)] at c
    exact hend c
  · rw [nI_ltI (by omega) (by omega)] at c
    have hkL : k ≤ L := by omega
    have step2 : ∀ py : Int32, py = iI (ay + (k : Int) * gdy w) → ∀ M1 : Mem, M1 = um M 5 (upd (M 5) T (iI (ax + (k : Int) * gdx w))) → (vp_in (M1 0 10) 80 ∧ ∀ M2 : Mem, M2 = um M1 6 (upd (M1 6) (M1 0 10).toNatClampNeg py) → (vp_in (M2 0 10) 80 ∧ ∀ M3 : Mem, M3 = um M2 7 (upd (M2 7) (M2 0 10).toNatClampNeg (nI f)) → ∀ M4 : Mem, M4 = um M3 0 (upd (M3 0) 10 ((M3 0 10) + (nI 1))) → ∀ y : Int32, y = nI k + (nI 1) → w_X7_laySide_107 n x1 x2 x3 x4 (nI w) (iI ax) (iI ay) x8 (nI f) y M4 K)) := by
      rintro _ rfl M1 q1
      have z1 : M1 0 10 = nI T := by rw [q1, um_n (by decide)]; exact hT
      rw [z1, nI_clamp (show T < 2 ^ 31 by omega)]
      refine ⟨hv0, ?_⟩
      intro M2 q2
      have z2 : M2 0 10 = nI T := by rw [q2, um_n (by decide)]; exact z1
      rw [z2, nI_clamp (show T < 2 ^ 31 by omega)]
      refine ⟨hv0, ?_⟩
      intro M3 q3 M4 q4
      have z3 : M3 0 10 = nI T := by rw [q3, um_n (by decide)]; exact z2
      rw [z3, nI_add] at q4
      rintro _ rfl
      rw [nI_add]
      refine h hkL M4 ?_ ?_ ?_ ?_ (fun a a0 a5 a6 a7 => ?_)
      · rw [q4, um_n (by decide), q3, um_n (by decide), q2, um_n (by decide), q1, um_s]
      · rw [q4, um_n (by decide), q3, um_n (by decide), q2, um_s, q1, um_n (by decide)]
      · rw [q4, um_n (by decide), q3, um_s, q2, um_n (by decide), q1, um_n (by decide)]
      · rw [q4, um_s, q3, um_n (by decide), q2, um_n (by decide), q1, um_n (by decide)]
      · rw [q4, um_n a0, q3, um_n a7, q2, um_n a6, q1, um_n a5]
    have ek : ∀ (a g : Int), iI a + nI k * iI g = iI (a + (k : Int) * g) := fun a g => by rw [← iI_nat, iI_mul, iI_add]
    rw [hT, nI_clamp (show T < 2 ^ 31 by omega)]
    have q0 : (nI 0 = 0) = True := eq_true (by decide)
    have q1 : (nI 1 = 0) = False := eq_false (by decide)
    have q2 : (nI 2 = 0) = False := eq_false (by decide)
    have q3 : (nI 3 = 0) = False := eq_false (by decide)
    have q01 : (nI 0 = nI 1) = False := eq_false (by decide)
    have q03 : (nI 0 = nI 3) = False := eq_false (by decide)
    have q12 : (nI 1 = nI 2) = False := eq_false (by decide)
    have q21 : (nI 2 = nI 1) = False := eq_false (by decide)
    have q23 : (nI 2 = nI 3) = False := eq_false (by decide)
    have q32 : (nI 3 = nI 2) = False := eq_false (by decide)
    have q31 : (nI 3 = nI 1) = False := eq_false (by decide)
    rcases (show w = 0 ∨ w = 1 ∨ w = 2 ∨ w = 3 by omega) with rfl | rfl | rfl | rfl
    all_goals simp only [q0, q1, q2, q3, q01, q03, q12, q21, q23, q32, q31, not_true_eq_false, not_false_eq_true, true_implies, false_implies, and_true, true_and, implies_true]
    · exact ⟨hv0, fun M1 e1 => step2 _ (ek ay 0) M1 (by rw [e1, ← ek ax]; rfl)⟩
    · exact ⟨hv0, fun M1 e1 => step2 _ (ek ay 1) M1 (by rw [e1, ← ek ax]; rfl)⟩
    · exact ⟨hv0, fun M1 e1 => step2 _ (ek ay 0) M1 (by rw [e1, ← ek ax]; rfl)⟩
    · exact ⟨hv0, fun M1 e1 => step2 _ (ek ay (-1)) M1 (by rw [e1, ← ek ax]; rfl)⟩
theorem lq_pts {f T w : Nat} {x1 x2 x3 x4 x8 : Int32} {ax ay : Int} {L : Nat} {M0 : Mem} {P : PTF} {K : Int32 → Mem → Prop} (hf : f < 8) (hL : M0 1 (1 + f) = nI L) (hL9 : L ≤ 9) (hT8 : T + L < 80) (hw : w < 4) (hP : ∀ m, m ≤ L → P (T + m) = (f, ax + (m : Int) * gdx w, ay + (m : Int) * gdy w))
    (hK : ∀ (x : Int32) (M : Mem), PFR M0 M → PTX M (T + (L + 1)) P → K x M) :
    ∀ (n k : Nat) (M : Mem), k ≤ L + 1 → L + 2 ≤ n + k → PFR M0 M → PTX M (T + k) P → w_X7_laySide_107 n x1 x2 x3 x4 (nI w) (iI ax) (iI ay) x8 (nI f) (nI k) M K := by
  intro n
  induction n with
  | zero => intro k M h1 h2; omega
  | succ n ih =>
    intro k M h1 h2 hF hX
    by_cases c : L < k
    · have e : k = L + 1 := by omega
      subst e
      unfold w_X7_laySide_107
      rw [nI_add, nI_clamp (show 1 + f < 2 ^ 31 by omega), hF.1 1 (by decide) (by decide) (by decide) (by decide), hL]
      refine ⟨vp_in_nI (by omega) (by decide), fun _ => hK _ M hF hX, fun z => ?_⟩
      rw [nI_ltI (by omega) (by omega)] at z
      omega
    · refine pt_step hf (by rw [hF.1 1 (by decide) (by decide) (by decide) (by decide)]; exact hL) hL9 (by omega) hX.1 (by omega) hw (fun z => absurd z c) (fun hkL M' m5 m6 m7 m0 mo => ?_)
      refine ih (k + 1) M' (by omega) (by omega) (hF.trans ⟨mo, fun s hs => by rw [m0, upd_n hs]⟩) ⟨by rw [m0, upd_s]; rfl, fun i hi => ?_⟩
      rw [m5, m6, m7]
      by_cases q : i = T + k
      · subst q
        rw [upd_s, upd_s, upd_s, hP k hkL]
        exact ⟨rfl, rfl, rfl⟩
      · rw [upd_n q, upd_n q, upd_n q]
        exact hX.2 i (by omega)
theorem isFl_y {M : Mem} {n f : Nat} {Q : Int32 → Mem → Prop} (hn : M 1 0 = nI n) (hn7 : n ≤ 7) (hf : f ≤ n) (h : Q (nI 1) M) : w_X7_isFlange (nI f) M Q :=
  pw_isFlange hn hn7 (fun z => absurd rfl (z f hf)) (fun _ _ _ => h)
theorem isFl_n {M : Mem} {n : Nat} {a : Int32} {Q : Int32 → Mem → Prop} (hn : M 1 0 = nI n) (hn7 : n ≤ 7) (hf : ∀ b, b ≤ n → a ≠ nI b) (h : Q (nI 0) M) : w_X7_isFlange a M Q :=
  pw_isFlange hn hn7 (fun _ => h) (fun b hb e => absurd e (hf b hb))
theorem way3 : ∀ w, w < 4 → (nI w + nI 3) - (nI w + nI 3) / nI 4 * nI 4 = nI ((w + 3) % 4) := by decide
theorem way1 : ∀ w, w < 4 → (nI w + nI 1) - (nI w + nI 1) / nI 4 * nI 4 = nI ((w + 1) % 4) := by decide
theorem bx_pt {S : Nat → Nat} {b d v f : Nat} (hw : (gF S b d v f).2.2 < 4) (x y : Int) : inB (bxF S b d v f) x y ↔ ∃ m : Nat, m ≤ S (1 + f) ∧ x = (gF S b d v f).1 + (m : Int) * gdx (gF S b d v f).2.2 ∧ y = (gF S b d v f).2.1 + (m : Int) * gdy (gF S b d v f).2.2 := by
  unfold inB bxF
  dsimp only
  generalize hW : (gF S b d v f).2.2 = w at hw ⊢
  have hg : (gdx w = 1 ∧ gdy w = 0) ∨ (gdx w = 0 ∧ gdy w = 1) ∨ (gdx w = -1 ∧ gdy w = 0) ∨ (gdx w = 0 ∧ gdy w = -1) := by
    rcases (show w = 0 ∨ w = 1 ∨ w = 2 ∨ w = 3 by omega) with rfl | rfl | rfl | rfl
    · exact Or.inl (by decide)
    · exact Or.inr (Or.inl (by decide))
    · exact Or.inr (Or.inr (Or.inl (by decide)))
    · exact Or.inr (Or.inr (Or.inr (by decide)))
  rcases hg with ⟨e1, e2⟩ | ⟨e1, e2⟩ | ⟨e1, e2⟩ | ⟨e1, e2⟩
  · rw [e1, e2]
    refine ⟨fun h => ⟨(x - (gF S b d v f).1).toNat, by omega, by omega, by omega⟩, fun ⟨m, h1, h2, h3⟩ => by omega⟩
  · rw [e1, e2]
    refine ⟨fun h => ⟨(y - (gF S b d v f).2.1).toNat, by omega, by omega, by omega⟩, fun ⟨m, h1, h2, h3⟩ => by omega⟩
  · rw [e1, e2]
    refine ⟨fun h => ⟨((gF S b d v f).1 - x).toNat, by omega, by omega, by omega⟩, fun ⟨m, h1, h2, h3⟩ => by omega⟩
  · rw [e1, e2]
    refine ⟨fun h => ⟨((gF S b d v f).2.1 - y).toNat, by omega, by omega, by omega⟩, fun ⟨m, h1, h2, h3⟩ => by omega⟩
/-- one more flange's points behind those that are laid out -/
def PTn (P : PTF) (T f w : Nat) (ax ay : Int) : PTF := fun i => if i < T then P i else (f, ax + ((i - T : Nat) : Int) * gdx w, ay + ((i - T : Nat) : Int) * gdy w)
theorem PTn_m (P : PTF) (T f w : Nat) (ax ay : Int) (m : Nat) : PTn P T f w ax ay (T + m) = (f, ax + (m : Int) * gdx w, ay + (m : Int) * gdy w) := by
  unfold PTn
  rw [if_neg (by omega), show T + m - T = m by omega]
theorem PTn_o {P : PTF} {T f w : Nat} {ax ay : Int} {i : Nat} (h : i < T) : PTn P T f w ax ay i = P i := if_pos h
/-- what is known of the points when the flanges of D are laid out -/
def PSET (M : Mem) (S : Nat → Nat) (b d v T : Nat) (D : Nat → Prop) : Prop := ∃ P : PTF, PTX M T P ∧ PTD T P D (bxF S b d v) ∧ PTE T P D (gE S b d v)
theorem pset_flange {n0 f T w b d v : Nat} {x1 x2 x3 x4 x8 : Int32} {ax ay : Int} {S : Nat → Nat} {M : Mem} {D : Nat → Prop} {K : Int32 → Mem → Prop} (hf : f < 8) (hL : M 1 (1 + f) = nI (S (1 + f))) (hL9 : S (1 + f) ≤ 9) (hT8 : T ≤ 70) (hw : w < 4) (hg : gF S b d v f = (ax, ay, w)) (hD : ¬ D f) (hP : PSET M S b d v T D) (h2 : 11 ≤ n0)
    (hK : ∀ (x : Int32) (M' : Mem), PFR M M' → PSET M' S b d v (T + (S (1 + f) + 1)) (fun g => D g ∨ g = f) → M' 0 10 = nI (T + (S (1 + f) + 1)) → M' 5 (T + S (1 + f)) = iI (gE S b d v f).1 → M' 6 (T + S (1 + f)) = iI (gE S b d v f).2 → K x M') :
    w_X7_laySide_107 n0 x1 x2 x3 x4 (nI w) (iI ax) (iI ay) x8 (nI f) (nI 0) M K := by
  obtain ⟨P, pX, pD, pE⟩ := hP
  have hgE : gE S b d v f = (ax + (S (1 + f) : Int) * gdx w, ay + (S (1 + f) : Int) * gdy w) := by
    unfold gE
    rw [hg]
  refine lq_pts (P := PTn P T f w ax ay) hf hL hL9 (by omega) hw (fun m _ => PTn_m P T f w ax ay m) (fun x M' hF hX => ?_) n0 0 M (by omega) (by omega) (PFR.refl M) ⟨pX.1, fun i hi => by rw [PTn_o (show i < T by omega)]; exact pX.2 i (by omega)⟩
  have hlast := hX.2 (T + S (1 + f)) (by omega)
  rw [PTn_m] at hlast
  refine hK x M' hF ⟨PTn P T f w ax ay, hX, ⟨fun i hi => ?_, fun g hg' x' y' hb => ?_⟩, fun g hg' => ?_⟩ hX.1 (by rw [hgE]; exact hlast.2.1) (by rw [hgE]; exact hlast.2.2)
  · by_cases c : i < T
    · rw [PTn_o c]
      exact ⟨Or.inl (pD.1 i c).1, (pD.1 i c).2⟩
    · obtain ⟨m, rfl⟩ : ∃ m, i = T + m := ⟨i - T, by omega⟩
      rw [PTn_m]
      refine ⟨Or.inr rfl, ?_⟩
      rw [bx_pt (by rw [hg]; exact hw), hg]
      exact ⟨m, (show m ≤ S (1 + f) by omega), rfl, rfl⟩
  · rcases hg' with hg' | rfl
    · obtain ⟨i, hi, e⟩ := pD.2 g hg' x' y' hb
      exact ⟨i, by omega, by rw [PTn_o hi]; exact e⟩
    · rw [bx_pt (by rw [hg]; exact hw), hg] at hb
      obtain ⟨m, m1, rfl, rfl⟩ := hb
      exact ⟨T + m, by omega, PTn_m P T g w ax ay m⟩
  · by_cases c : g = f
    · subst c
      refine ⟨T + S (1 + g), by omega, ?_, fun j j1 j2 => by omega⟩
      rw [PTn_m, hgE]
    · rcases hg' with hg' | hg'
      · obtain ⟨i, hi, e, hl⟩ := pE g hg'
        refine ⟨i, by omega, by rw [PTn_o hi]; exact e, fun j j1 j2 => ?_⟩
        by_cases q : j < T
        · rw [PTn_o q]; exact hl j j1 q
        · obtain ⟨m, rfl⟩ : ∃ m, j = T + m := ⟨j - T, by omega⟩
          rw [PTn_m]
          exact fun z => c z.symm
      · exact absurd hg' c
theorem PSET.iff {M : Mem} {S : Nat → Nat} {b d v T : Nat} {D D' : Nat → Prop} (h : PSET M S b d v T D) (e : ∀ f, D f ↔ D' f) : PSET M S b d v T D' := by
  have : D = D' := funext fun f => propext (e f)
  rw [← this]
  exact h
theorem pw_isUp7 {M : Mem} {S : Nat → Nat} {b v : Nat} {Q : Int32 → Mem → Prop} (hC : RC (M 1) S) (hS : CV S) (hb : b < S 0) (hv : v ≤ 1) (h0 : S (9 + b) = v → Q (nI 0) M) (h1 : S (9 + b) ≠ v → Q (nI 1) M) : w_X7_isUp (nI b) (nI v) M Q := by
  unfold w_X7_isUp
  have h7 := hS.1.2
  have hu := hS.2.2.1 b hb
  rw [nI_add, nI_clamp (show 9 + b < 2 ^ 31 by omega), hC.2.1 b hb, nI_eq (by omega) (by omega)]
  exact ⟨vp_in_nI (by omega) (by decide), h0, h1⟩
theorem lq_left {S : Nat → Nat} {b d v : Nat} {M0 : Mem} {K : Int32 → Int32 → Int32 → Int32 → Mem → Prop} (hS : CV S) (hC : RC (M0 1) S) (hb : b < S 0) (hd : d < 128) (hv : v ≤ 1)
    (hK : ∀ (x1 x2 x3 x4 : Int32) (M : Mem) (T : Nat), PFR M0 M → T ≤ 10 * (b + 1) → PSET M S b d v T (fun f => f ≤ b) → K x1 x2 x3 x4 M) :
    ∀ (n i w T : Nat) (M : Mem), i ≤ b → b + 2 ≤ n + i → w < 4 → (if i = 0 then w else (w + gtr S d v (b - i) false) % 4) = (gL S b d v i).2.2 → T ≤ 10 * i → PFR M0 M → PSET M S b d v T (fun f => b - i < f ∧ f ≤ b) → w_X7_laySide_41 n (nI b) (nI 0) (nI d) (nI v) (nI w) (iI (gL S b d v i).1) (iI (gL S b d v i).2.1) (-1) (nI (b - i)) M K := by
  intro n
  have h7 := hS.1.2
  induction n with
  | zero => intro i w T M h1 h2; omega
  | succ n ih =>
    intro i w T M h1 h2 hw hturn hT hF hP
    unfold w_X7_laySide_41
    have hM1 : M 1 = M0 1 := hF.1 1 (by decide) (by decide) (by decide) (by decide)
    have hCM : RC (M 1) S := by rw [hM1]; exact hC
    refine isFl_y hCM.1 h7 (by omega) ⟨fun z => absurd z (by decide), fun _ => ⟨fun _ => ?_, fun z => absurd rfl z⟩⟩
    have hl := hS.2.1 (b - i) (by omega)
    have body : ∀ w1 : Nat, w1 = (gL S b d v i).2.2 → w_X7_laySide_107 FU (nI b) (nI 0) (nI d) (nI v) (nI w1) (iI (gL S b d v i).1) (iI (gL S b d v i).2.1) (-1) (nI (b - i)) (nI 0) M (fun y57 M58 => (vp_in ((M58 0 10) - (nI 1)) 80 ∧ ∀ y59 : Int32, y59 = (M58 5 ((M58 0 10) - (nI 1)).toNatClampNeg) → (vp_in ((M58 0 10) - (nI 1)) 80 ∧ ∀ y60 : Int32, y60 = (M58 6 ((M58 0 10) - (nI 1)).toNatClampNeg) → ∀ y61 : Int32, y61 = (nI (b - i) + (-1)) → w_X7_laySide_41 n (nI b) (nI 0) (nI d) (nI v) (nI w1) y59 y60 (-1) y61 M58 K))) := by
      rintro _ rfl
      have hg : gF S b d v (b - i) = ((gL S b d v i).1, (gL S b d v i).2.1, (gL S b d v i).2.2) := gF_L h1
      refine pset_flange (T := T) (D := fun f => b - i < f ∧ f ≤ b) (by omega) (hCM.2.2.1 _ (by omega)) hl.2 (by omega) (gL_w S b d v i) hg (fun z => by omega) hP (by show 11 ≤ 1000; omega) (fun x M' hF' hP' z0 z5 z6 => ?_)
      have hP2 := hP'.iff (D' := fun f => b - i ≤ f ∧ f ≤ b) (fun f => by omega)
      rw [z0, pk_sub (by omega), show T + (S (1 + (b - i)) + 1) - 1 = T + S (1 + (b - i)) by omega, nI_clamp (by omega), z5, z6]
      have hvp : vp_in (nI (T + S (1 + (b - i)))) 80 := vp_in_nI (by omega) (by decide)
      refine ⟨hvp, ?_⟩
      rintro _ rfl
      refine ⟨hvp, ?_⟩
      rintro _ rfl _ rfl
      have eE : gE S b d v (b - i) = ((gL S b d v i).1 + (S (1 + (b - i)) : Int) * gdx (gL S b d v i).2.2, (gL S b d v i).2.1 + (S (1 + (b - i)) : Int) * gdy (gL S b d v i).2.2) := by
        unfold gE
        rw [hg]
      by_cases hi : i = b
      · subst hi
        have e : nI (i - i) + (-1 : Int32) = -1 := by rw [Nat.sub_self]; decide
        rw [e]
        obtain ⟨n', hn'⟩ : ∃ n', n = n' + 1 := ⟨n - 1, by omega⟩
        subst hn'
        unfold w_X7_laySide_41
        have hn : M' 1 0 = nI (S 0) := by rw [hF'.1 1 (by decide) (by decide) (by decide) (by decide)]; exact hCM.1
        refine isFl_n hn h7 (fun q hq e => absurd (show (-1 : Int32) < 0 by decide) (by rw [e]; exact nI_neg (by omega))) ⟨fun _ => ?_, fun z => absurd rfl z⟩
        exact hK _ _ _ _ M' _ (hF.trans hF') (show T + (S (1 + (i - i)) + 1) ≤ _ by omega) (hP2.iff (fun f => by omega))
      · rw [show b - i = b - (i + 1) + 1 by omega, pk_m1]
        have := ih (i + 1) (gL S b d v i).2.2 (T + (S (1 + (b - i)) + 1)) M' (by omega) (by omega) (gL_w S b d v i) (by rw [if_neg (by omega)]; rfl) (by omega) (hF.trans hF') (hP2.iff (fun f => by omega))
        rw [show gE S b d v (b - (i + 1) + 1) = gE S b d v (b - i) by rw [show b - (i + 1) + 1 = b - i by omega], eE]
        exact this
    have eqb : (nI (b - i) = nI b) = (i = 0) := by
      rw [nI_eq (by omega) (by omega)]
      exact propext (by omega)
    rw [eqb]
    refine ⟨fun z => ?_, fun z => ?_⟩
    · rw [if_pos z] at hturn
      have := body w hturn
      exact this
    · rw [if_neg z] at hturn
      unfold gtr at hturn
      refine pw_has hd (by omega) ?_
      by_cases q : d.testBit (b - i) = true
      · rw [if_pos q]
        rw [if_pos q] at hturn
        refine ⟨fun y => absurd y (by decide), fun _ => ?_⟩
        refine pw_isUp7 hCM hS (by omega) hv (fun y => ?_) (fun y => ?_)
        · refine ⟨fun y' => absurd rfl y', fun _ => ?_⟩
          rw [if_pos (by simpa using y)] at hturn
          rw [way1 w hw]
          rintro _ rfl
          exact body _ hturn
        · refine ⟨fun _ => ?_, fun y' => absurd y' (by decide)⟩
          rw [if_neg (by simpa using y)] at hturn
          rw [way3 w hw]
          rintro _ rfl
          exact body _ hturn
      · rw [if_neg q]
        rw [if_neg q] at hturn
        refine ⟨fun _ => ?_, fun y => absurd rfl y⟩
        have e : w = (gL S b d v i).2.2 := by omega
        exact body w e
theorem lq_right {S : Nat → Nat} {b d v : Nat} {M0 : Mem} {K : Int32 → Int32 → Int32 → Int32 → Mem → Prop} (hS : CV S) (hC : RC (M0 1) S) (hb : b < S 0) (hd : d < 128) (hv : v ≤ 1)
    (hK : ∀ (x1 x2 x3 x4 : Int32) (M : Mem) (T : Nat), PFR M0 M → T ≤ 80 → PSET M S b d v T (fun f => f ≤ S 0) → K x1 x2 x3 x4 M) :
    ∀ (n i w T : Nat) (M : Mem), b + 1 + i ≤ S 0 + 1 → S 0 + 2 ≤ n + (b + 1 + i) → w < 4 → (b + 1 + i ≤ S 0 → (if i = 0 then w else (w + gtr S d v (b + i) true) % 4) = (gR S b d v i).2.2) → T ≤ 10 * (b + 1 + i) → PFR M0 M → PSET M S b d v T (fun f => f < b + 1 + i) → w_X7_laySide_41 n (nI b) (nI 1) (nI d) (nI v) (nI w) (iI (gR S b d v i).1) (iI (gR S b d v i).2.1) (nI 1) (nI (b + 1 + i)) M K := by
  intro n
  have h7 := hS.1.2
  induction n with
  | zero => intro i w T M h1 h2; omega
  | succ n ih =>
    intro i w T M h1 h2 hw hturn hT hF hP
    unfold w_X7_laySide_41
    have hM1 : M 1 = M0 1 := hF.1 1 (by decide) (by decide) (by decide) (by decide)
    have hCM : RC (M 1) S := by rw [hM1]; exact hC
    by_cases hle : b + 1 + i ≤ S 0
    · refine isFl_y hCM.1 h7 hle ⟨fun z => absurd z (by decide), fun _ => ⟨fun z => absurd z (by decide), fun _ => ?_⟩⟩
      have hturn := hturn hle
      have hl := hS.2.1 (b + 1 + i) hle
      have body : ∀ w1 : Nat, w1 = (gR S b d v i).2.2 → w_X7_laySide_107 FU (nI b) (nI 1) (nI d) (nI v) (nI w1) (iI (gR S b d v i).1) (iI (gR S b d v i).2.1) (nI 1) (nI (b + 1 + i)) (nI 0) M (fun y57 M58 => (vp_in ((M58 0 10) - (nI 1)) 80 ∧ ∀ y59 : Int32, y59 = (M58 5 ((M58 0 10) - (nI 1)).toNatClampNeg) → (vp_in ((M58 0 10) - (nI 1)) 80 ∧ ∀ y60 : Int32, y60 = (M58 6 ((M58 0 10) - (nI 1)).toNatClampNeg) → ∀ y61 : Int32, y61 = (nI (b + 1 + i) + nI 1) → w_X7_laySide_41 n (nI b) (nI 1) (nI d) (nI v) (nI w1) y59 y60 (nI 1) y61 M58 K))) := by
        rintro _ rfl
        have hg : gF S b d v (b + 1 + i) = ((gR S b d v i).1, (gR S b d v i).2.1, (gR S b d v i).2.2) := gF_R
        refine pset_flange (T := T) (D := fun f => f < b + 1 + i) (by omega) (hCM.2.2.1 _ hle) hl.2 (by omega) (gR_w S b d v i) hg (fun z => by omega) hP (by show 11 ≤ 1000; omega) (fun x M' hF' hP' z0 z5 z6 => ?_)
        rw [z0, pk_sub (by omega), show T + (S (1 + (b + 1 + i)) + 1) - 1 = T + S (1 + (b + 1 + i)) by omega, nI_clamp (by omega), z5, z6]
        have hvp : vp_in (nI (T + S (1 + (b + 1 + i)))) 80 := vp_in_nI (by omega) (by decide)
        refine ⟨hvp, ?_⟩
        rintro _ rfl
        refine ⟨hvp, ?_⟩
        rintro _ rfl _ rfl
        have eE : gE S b d v (b + 1 + i) = ((gR S b d v i).1 + (S (1 + (b + 1 + i)) : Int) * gdx (gR S b d v i).2.2, (gR S b d v i).2.1 + (S (1 + (b + 1 + i)) : Int) * gdy (gR S b d v i).2.2) := by
          unfold gE
          rw [hg]
        rw [nI_add, show b + 1 + i + 1 = b + 1 + (i + 1) by omega, eE]
        exact ih (i + 1) (gR S b d v i).2.2 (T + (S (1 + (b + 1 + i)) + 1)) M' (by omega) (by omega) (gR_w S b d v i) (fun _ => by rw [if_neg (by omega), show b + (i + 1) = b + 1 + i by omega]; rfl) (by omega) (hF.trans hF') (hP'.iff (fun f => by omega))
      rw [pk_sub (by omega), show b + 1 + i - 1 = b + i by omega]
      rintro _ rfl
      have eqb : (nI (b + i) = nI b) = (i = 0) := by
        rw [nI_eq (by omega) (by omega)]
        exact propext (by omega)
      rw [eqb]
      refine ⟨fun z => ?_, fun z => ?_⟩
      · rw [if_pos z] at hturn
        exact body w hturn
      · rw [if_neg z] at hturn
        unfold gtr at hturn
        refine pw_has hd (by omega) ?_
        by_cases q : d.testBit (b + i) = true
        · rw [if_pos q]
          rw [if_pos q] at hturn
          refine ⟨fun y => absurd y (by decide), fun _ => ?_⟩
          refine pw_isUp7 hCM hS (by omega) hv (fun y => ?_) (fun y => ?_)
          · refine ⟨fun _ => ?_, fun y' => absurd y' (by decide)⟩
            rw [if_neg (by simpa using y)] at hturn
            rw [way3 w hw]
            rintro _ rfl
            exact body _ hturn
          · refine ⟨fun y' => absurd rfl y', fun _ => ?_⟩
            rw [if_pos (by simpa using y)] at hturn
            rw [way1 w hw]
            rintro _ rfl
            exact body _ hturn
        · rw [if_neg q]
          rw [if_neg q] at hturn
          refine ⟨fun _ => ?_, fun y => absurd rfl y⟩
          have e : w = (gR S b d v i).2.2 := by omega
          exact body w e
    · have e : b + 1 + i = S 0 + 1 := by omega
      refine isFl_n hCM.1 h7 (fun q hq e => ?_) ⟨fun _ => ?_, fun z => absurd rfl z⟩
      · have := nI_inj (by omega) (by omega) e
        omega
      · exact hK _ _ _ _ M T hF (by omega) (hP.iff (fun f => by omega))
/-- laid out: all points, flange by flange -/
def PLAID (M M' : Mem) (S : Nat → Nat) (b d v : Nat) : Prop := PFR M M' ∧ ∃ T, T ≤ 80 ∧ PSET M' S b d v T (fun f => f ≤ S 0)
theorem pw_lay {M : Mem} {b d v : Nat} {S : Nat → Nat} {Q : Mem → Prop} (hS : CV S) (hC : RC (M 1) S) (hb : b < S 0) (hd : d < 128) (hv : v ≤ 1) (hQ : ∀ M', PLAID M M' S b d v → Q M') : w_X7_lay (nI b) (nI d) (nI v) M Q := by
  unfold w_X7_lay
  have h7 := hS.1.2
  intro M1 q1
  have f1 : PFR M M1 := ⟨fun a a0 _ _ _ => by rw [q1, um_n a0], fun s hs => by rw [q1, um_s, upd_n hs]⟩
  have z1 : M1 0 10 = nI 0 := by rw [q1, um_s, upd_s]
  have hC1 : RC (M1 1) S := by rw [f1.1 1 (by decide) (by decide) (by decide) (by decide)]; exact hC
  unfold w_X7_laySide
  refine ⟨fun _ => ⟨fun _ => ⟨fun _ => ?_, fun z => absurd rfl z⟩, fun z => absurd rfl z⟩, fun z => absurd rfl z⟩
  refine lq_left (M0 := M1) (K := fun _ _ _ _ M119 => _) hS hC1 hb hd hv (fun _ _ _ _ M2 T2 f2 t2 p2 => ?_) FU 0 2 0 M1 (Nat.zero_le _) (by show _ ≤ 1000 + 0; omega) (by decide) rfl (Nat.zero_le _) (PFR.refl _) ⟨fun _ => (0, 0, 0), ⟨z1, fun i hi => by omega⟩, ⟨fun i hi => by omega, fun f hf => absurd hf (by omega)⟩, fun f hf => absurd hf (by omega)⟩
  have hC2 : RC (M2 1) S := by rw [f2.1 1 (by decide) (by decide) (by decide) (by decide)]; exact hC1
  refine ⟨fun z => absurd z (by decide), fun _ => ⟨fun z => absurd z (by decide), fun _ => ⟨fun z => absurd z (by decide), fun _ => ?_⟩⟩⟩
  rw [nI_add]
  rintro _ rfl
  refine lq_right (M0 := M2) (K := fun _ _ _ _ M162 => Q M162) hS hC2 hb hd hv (fun _ _ _ _ M3 T3 f3 t3 p3 => hQ M3 ⟨(f1.trans f2).trans f3, T3, t3, p3⟩) FU 0 0 T2 M2 (by omega) (by show _ ≤ 1000 + _; omega) (by decide) (fun _ => rfl) (by omega) (PFR.refl _) (p2.iff (fun f => by omega))
