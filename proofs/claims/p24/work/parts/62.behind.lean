/-! the law's areOrdersSo: always so -/
theorem cor_up {G : GN} {i v : Nat} (h7 : G 0 ≤ 7) (h : i = 16 ∨ i = 17 ∨ i = 22) : cor (upG G i v) = cor G := by
  funext j
  unfold cor
  rw [upG_n (show 0 ≠ i by omega)]
  by_cases c0 : j = 0
  · rw [if_pos c0, if_pos c0]
  · rw [if_neg c0, if_neg c0]
    by_cases c1 : j ≤ 1 + G 0 ∧ j ≤ 8
    · rw [if_pos c1, if_pos c1, upG_n (by omega)]
    · rw [if_neg c1, if_neg c1]
      by_cases c2 : 9 ≤ j ∧ j < 9 + G 0
      · rw [if_pos c2, if_pos c2, upG_n (by omega)]
      · rw [if_neg c2, if_neg c2]
        by_cases c3 : 18 ≤ j ∧ j ≤ 20
        · rw [if_pos c3, if_pos c3, upG_n (by omega)]
        · rw [if_neg c3, if_neg c3]
theorem cor_bd {G : GN} {b : Nat} (h7 : G 0 ≤ 7) : cor (bdG G b) = cor G := by
  unfold bdG
  rw [cor_up (by rw [upG_n (by decide)]; exact h7) (by omega), cor_up h7 (by omega)]
theorem upG_self (G : GN) (i : Nat) : upG G i (G i) = G := by
  funext j
  unfold upG
  by_cases e : j = i
  · rw [if_pos e, e]
  · rw [if_neg e]
theorem upG_two (G : GN) (i x y : Nat) : upG (upG G i x) i y = upG G i y := by
  funext j
  unfold upG
  by_cases e : j = i
  · rw [if_pos e, if_pos e]
  · rw [if_neg e, if_neg e, if_neg e]
theorem wC_D {S : GN} {D D' f s x : Nat} (h : x &&& D = D) (h' : x &&& D' = D') : wC S D f s x = wC S D' f s x := by
  unfold wC
  refine wW_agree (Cl := fun e => e &&& D = D ∧ e &&& D' = D') (fun e b hc _ => ?_) (fun e b hc _ => ⟨sub_or hc.1 b, sub_or hc.2 b⟩) x ⟨h, h'⟩
  show (nxB S D e b && cstB f s b e) = (nxB S D' e b && cstB f s b e)
  unfold nxB
  rw [decide_eq_true hc.1, decide_eq_true hc.2]
def mwS (S : GN) (d f s : Nat) : Int32 := if d.testBit f = true ∨ d.testBit s = true then -1001 else if f = s then -1002 else if wS S d = 0 then -1004 else if 0 < wC S d f s d then nI 0 else nI 1
theorem mwV_S (G : GN) (f s : Nat) : mwV G f s = mwS (cor G) (G 16) f s := rfl
/-- what the loop asks of the bend b -/
def pbB (S : GN) (d f s b : Nat) : Bool := !(okS S b d) || decide (wS S (d ||| 2 ^ b) = 0) || decide (b = s) || (!decide (b = f) && decide (mwS S (d ||| 2 ^ b) f s = nI 1))
def flF (p : Nat → Bool) : Nat → Nat
  | 0 => 1
  | n + 1 => if p n then flF p n else 0
theorem flF_le (p : Nat → Bool) : ∀ n, flF p n ≤ 1
  | 0 => Nat.le_refl 1
  | n + 1 => by
    show (if p n then flF p n else 0) ≤ 1
    have := flF_le p n
    split <;> omega
theorem flF_0 (p : Nat → Bool) : ∀ n, flF p n = 0 ↔ ∃ b, b < n ∧ p b = false := by
  intro n
  induction n with
  | zero => exact ⟨fun h => absurd (show (1 : Nat) = 0 from h) (by decide), fun ⟨b, h, _⟩ => absurd h (Nat.not_lt_zero b)⟩
  | succ n ih =>
    show (if p n then flF p n else 0) = 0 ↔ _
    by_cases c : p n = true
    · rw [if_pos c, ih]
      refine ⟨fun ⟨b, h1, h2⟩ => ⟨b, by omega, h2⟩, fun ⟨b, h1, h2⟩ => ⟨b, ?_, h2⟩⟩
      have : b ≠ n := fun e => by rw [e, c] at h2; cases h2
      omega
    · rw [if_neg c]
      exact ⟨fun _ => ⟨n, by omega, by simpa using c⟩, fun _ => rfl⟩
theorem pb_f {S : GN} {d f s b : Nat} : pbB S d f s b = false ↔ okS S b d = true ∧ wS S (d ||| 2 ^ b) ≠ 0 ∧ b ≠ s ∧ (b = f ∨ mwS S (d ||| 2 ^ b) f s ≠ nI 1) := by
  unfold pbB
  simp only [Bool.or_eq_false_iff, Bool.not_eq_false', decide_eq_false_iff_not, Bool.and_eq_false_iff, decide_eq_true_eq, and_assoc, ne_eq]
theorem bit_or_n {d b j : Nat} (h : b ≠ j) : (d ||| 2 ^ b).testBit j = d.testBit j := by
  rw [Nat.testBit_or, Nat.testBit_two_pow, decide_eq_false h, Bool.or_false]
theorem fl_wC {S : GN} {d f s : Nat} (hS : CV S) (hf : f < S 0) (hs : s < S 0) (hfs : f ≠ s) (hd : NB S d f s d) : flF (pbB S d f s) (S 0) = 0 ↔ 0 < wC S d f s d := by
  rw [flF_0, wC_step hS hf hs hfs hd]
  obtain ⟨d1, d2, d3, d4⟩ := hd
  have mw : ∀ b, b ≠ f → b ≠ s → wS S (d ||| 2 ^ b) ≠ 0 → (mwS S (d ||| 2 ^ b) f s ≠ nI 1 ↔ 0 < wC S d f s (d ||| 2 ^ b)) := by
    intro b h1 h2 h3
    unfold mwS
    rw [bit_or_n h1, bit_or_n h2, d3, d4, if_neg (by simp), if_neg hfs, if_neg h3, wC_D (D := d ||| 2 ^ b) (D' := d) (Nat.and_self _) (sub_or d2 b)]
    by_cases c : 0 < wC S d f s (d ||| 2 ^ b)
    · rw [if_pos c]
      exact ⟨fun _ => c, fun _ => by decide⟩
    · rw [if_neg c]
      exact ⟨fun q => absurd rfl q, fun q => absurd q c⟩
  have ld : ∀ b, ldB S d b = true ↔ okS S b d = true ∧ wS S (d ||| 2 ^ b) ≠ 0 := by
    intro b
    unfold ldB
    rw [Bool.and_eq_true, decide_eq_true_eq]
    exact ⟨fun h => ⟨h.1, by omega⟩, fun h => ⟨h.1, by omega⟩⟩
  refine ⟨fun ⟨b, b1, b2⟩ => ?_, fun h => ?_⟩
  · obtain ⟨p1, p2, p3, p4⟩ := pb_f.mp b2
    by_cases e : b = f
    · exact Or.inl (by rw [← e]; exact (ld b).mpr ⟨p1, p2⟩)
    · exact Or.inr ⟨b, b1, p3, e, (ld b).mpr ⟨p1, p2⟩, (mw b e p3 p2).mp (p4.resolve_left e)⟩
  · rcases h with h | ⟨b, b1, b2, b3, b4, b5⟩
    · obtain ⟨p1, p2⟩ := (ld f).mp h
      exact ⟨f, hf, pb_f.mpr ⟨p1, p2, hfs, Or.inl rfl⟩⟩
    · obtain ⟨p1, p2⟩ := (ld b).mp b4
      exact ⟨b, b1, pb_f.mpr ⟨p1, p2, b2, Or.inr ((mw b b3 b2 p2).mpr b5)⟩⟩
/-- laid over where it is needed, the reason is 0 just where the bend can be next in an order -/
theorem ok_laid {S : GN} {b d v v' : Nat} (hu : S (9 + b) ≤ 1) (hv : v ≤ 1) (e : v' = if rsn S b d v = 2 then 1 - v else v) : rsn S b d v' = 0 ↔ okS S b d = true := by
  unfold okS
  rw [decide_eq_true_eq]
  by_cases c : d.testBit b = true
  · rw [(rsn_1 S b d v').mpr c, (rsn_1 S b d (1 - S (9 + b))).mpr c]
  · have c' : d.testBit b = false := by simpa using c
    have h2 := rsn_2 (S := S) (v := v) c'
    by_cases q : rsn S b d v = 2
    · rw [if_pos q] at e
      rw [e, ← h2.mp q]
    · rw [if_neg q] at e
      have : S (9 + b) ≠ v := fun w => q (h2.mpr w)
      rw [e, show 1 - S (9 + b) = v by omega]
set_option maxHeartbeats 4000000 in
theorem lq_behind {G : GN} {t f s : Nat} {c : GN} {x3 x4 : Int32} {s0 : Nat} {K : Int32 → Int32 → Int32 → Mem → Prop} (hf : f < G 0) (hs : s < G 0)
    (hK : ∀ ko M', ST M' G ko t c → K (nI (s0 + smB (fun b => if okS (cor G) b (G 16) then wS (cor G) (G 16 ||| 2 ^ b) else 0) (G 0))) (nI (flF (pbB (cor G) (G 16) f s) (G 0))) (nI (G 0)) M') :
    ∀ (n j : Nat) (M : Mem) (ko : Option GN), j ≤ G 0 → G 0 + 1 ≤ n + j → ST M G ko t c → w_L_areOrdersSo_43 n (nI f) (nI s) x3 x4 (nI (G 0)) (nI (s0 + smB (fun b => if okS (cor G) b (G 16) then wS (cor G) (G 16 ||| 2 ^ b) else 0) j)) (nI (flF (pbB (cor G) (G 16) f s) j)) (nI j) M K := by
  intro n
  induction n with
  | zero => intro j M ko h1 h2; omega
  | succ n ih =>
    intro j M ko hj hn h
    have h7 := h.v.1.2
    unfold w_L_areOrdersSo_43
    refine ⟨fun z => ?_, fun z => ?_⟩
    · rw [nI_leI (by omega) (by omega)] at z
      have e : j = G 0 := by omega
      subst e
      exact hK ko M h
    rw [nI_leI (by omega) (by omega)] at z
    have hjn : j < G 0 := by omega
    have hU := h.v.2.2.1 j hjn
    have hV := h.v.2.2.2.2.1
    refine pc_keep h (fr_ST (fun M1 h1 _ => ?_))
    refine pc_ofBend2 h1 hjn (fr_ST (fun M2 h2 _ => ?_))
    have hcu : cor G (9 + j) = G (9 + j) := cor_b hjn
    have ihj := ih (j + 1)
    rw [show flF (pbB (cor G) (G 16) f s) (j + 1) = (if pbB (cor G) (G 16) f s j then flF (pbB (cor G) (G 16) f s) j else 0) from rfl,
      show smB (fun b => if okS (cor G) b (G 16) then wS (cor G) (G 16 ||| 2 ^ b) else 0) (j + 1) = smB (fun b => if okS (cor G) b (G 16) then wS (cor G) (G 16 ||| 2 ^ b) else 0) j + (if okS (cor G) j (G 16) then wS (cor G) (G 16 ||| 2 ^ j) else 0) from rfl] at ihj
    have hfl := flF_le (pbB (cor G) (G 16) f s) j
    generalize smB (fun b => if okS (cor G) b (G 16) then wS (cor G) (G 16 ||| 2 ^ b) else 0) j = sm at ihj ⊢
    generalize flF (pbB (cor G) (G 16) f s) j = fl at ihj hfl ⊢
    obtain ⟨v', hv'⟩ : ∃ v' : Nat, v' = if rsn (cor G) j (G 16) (G 17) = 2 then 1 - G 17 else G 17 := ⟨_, rfl⟩
    have hok := ok_laid (S := cor G) (b := j) (d := G 16) (v := G 17) (v' := v') (by rw [hcu]; exact hU) hV hv'
    have hr := rsn_le (cor G) j (G 16) (G 17)
    have hr' := rsn_le (cor G) j (G 16) v'
    have g0 : upG G 17 v' 0 = G 0 := upG_n (by decide)
    have g16 : upG G 17 v' 16 = G 16 := upG_n (by decide)
    have g17 : upG G 17 v' 17 = v' := upG_s _ _ _
    have gc : cor (upG G 17 v') = cor G := cor_up h7 (by omega)
    refine ⟨fun _ M => ST M (upG G 17 v') (some G) t c, ?_, ?_⟩
    rotate_left
    · rw [e_in (by omega) (by decide)]
      refine ⟨fun q => ?_, fun q => ?_⟩
      · rw [if_neg q] at hv'
        rw [hv', upG_self]
        exact h2
      · rw [if_pos q] at hv'
        rw [hv']
        exact pc_layOver h2 (fr_ST (fun M3 h3 _ => h3))
    intro _ M3 h3
    refine pc_ofBend2 h3 (by rw [g0]; exact hjn) (fr_ST (fun M4 h4 _ => ?_))
    rw [gc, g16, g17, z_in (by omega)]
    refine ⟨fun x6 x7 M => x6 = nI (s0 + (sm + (if okS (cor G) j (G 16) then wS (cor G) (G 16 ||| 2 ^ j) else 0))) ∧ x7 = nI (if pbB (cor G) (G 16) f s j then fl else 0) ∧ ∃ G2, ST M G2 (some G) t c, ?_, ?_⟩
    · rintro _ _ M5 ⟨rfl, rfl, G2, h5⟩
      refine pc_restore h5 (fr_ST (fun M6 h6 _ => ?_))
      rintro _ rfl
      rw [nI_add]
      exact ihj M6 _ (by omega) (by omega) h6
    · refine ⟨fun q => ?_, fun q => ?_⟩
      · have no : okS (cor G) j (G 16) = false := by
          by_cases w : okS (cor G) j (G 16) = true
          · exact absurd (hok.mpr w) q
          · simpa using w
        refine ⟨?_, ?_, _, h4⟩
        · rw [no]; simp
        · unfold pbB
          rw [no]; simp
      · have yes := hok.mp q
        refine pc_bend h4 (by rw [g0]; exact hjn) (fun _ => fr_ST (fun M5 h5 _ => ?_)) (fun w => absurd (by rw [gc, g16, g17]; exact q) w)
        refine pc_orders h5 (fr_ST (fun M6 h6 _ => ?_))
        have b16 : bdG (upG G 17 v') j 16 = G 16 ||| 2 ^ j := by rw [bdG_16, g16]
        have bc : cor (bdG (upG G 17 v') j) = cor G := by rw [cor_bd (by rw [g0]; exact h7), gc]
        have b0 : bdG (upG G 17 v') j 0 = G 0 := by rw [bdG_o (by decide) (by decide), g0]
        rw [b16, bc]
        rintro _ rfl
        have hd' := h6.d
        rw [b16, bc] at hd'
        have hwl := wS_lt (h.v.cv) hd'
        refine ⟨fun b M => b = nI (if pbB (cor G) (G 16) f s j then fl else 0) ∧ ST M (bdG (upG G 17 v') j) (some G) t c, ?_, ?_⟩
        · rintro _ M7 ⟨rfl, h7'⟩
          refine ⟨?_, rfl, _, h7'⟩
          rw [nI_add, if_pos yes, Nat.add_assoc]
        · rw [z_in (by omega), z_in hwl, e_in (by omega) (by omega), e_in (by omega) (by omega)]
          refine ⟨fun q0 => ⟨?_, h6⟩, fun q0 => ⟨fun q1 => ⟨?_, h6⟩, fun q1 => ⟨fun q2 => ⟨?_, h6⟩, fun q2 => ⟨fun q3 => ⟨?_, h6⟩, fun q3 => ?_⟩⟩⟩⟩
          · rw [q0]; simp
          · have e1 : fl = 1 := by omega
            have : pbB (cor G) (G 16) f s j = true := by unfold pbB; simp [q1]
            rw [if_pos this, e1]
          · have e1 : fl = 1 := by omega
            have : pbB (cor G) (G 16) f s j = true := by unfold pbB; simp [q2]
            rw [if_pos this, e1]
          · have : pbB (cor G) (G 16) f s j = false := pb_f.mpr ⟨yes, q1, q2, Or.inl q3⟩
            rw [this]; rfl
          · have e1 : fl = 1 := by omega
            refine pc_mustWait h6 (by rw [b0]; exact hf) (by rw [b0]; exact hs) (fr_ST (fun M7 h7' _ => ?_))
            rw [mwV_S, bc, b16]
            refine ⟨fun q4 => ⟨?_, h7'⟩, fun q4 => ⟨?_, h7'⟩⟩
            · have : pbB (cor G) (G 16) f s j = false := pb_f.mpr ⟨yes, q1, q2, Or.inr q4⟩
              rw [this]; rfl
            · have : pbB (cor G) (G 16) f s j = true := by unfold pbB; simp [q3, q4]
              rw [if_pos this, e1]
set_option maxHeartbeats 4000000 in
theorem pl_areOrdersSo {M : Mem} {G : GN} {ko : Option GN} {t f s : Nat} {c : GN} {Q : Int32 → Mem → Prop} (h : ST M G ko t c) (hf : f < G 0) (hs : s < G 0) (hQ : ∀ ko' M', ST M' G ko' t c → Q (nI 1) M') : w_L_areOrdersSo (nI f) (nI s) M Q := by
  unfold w_L_areOrdersSo
  have h7 := h.v.1.2
  have hd := h.d
  have hpc := h.pc
  have hwl := wS_lt h.v.cv hd
  refine pc_orders h (fr_ST (fun M1 h1 _ => ?_))
  refine pc_mustWait h1 hf hs (fr_ST (fun M2 h2 _ => ?_))
  refine pc_count0 h2 (fr_ST (fun M3 h3 _ => ?_) M2 h2)
  refine pc_count1 h3 (fr_ST (fun M4 h4 _ => ?_) M3 h3)
  have hfix := wS_fix h.v.cv hd
  have hfull : (G 16 = 2 ^ cor G 0 - 1) ↔ pcn (G 16) = G 0 := by
    rw [cor_0]
    exact (pcn_full (G 0) (by omega) _ h.v.2.2.2.1).2.symm
  refine ⟨fun b M => b = nI (if pcn (G 16) = G 0 then 1 else 0) ∧ ST M G ko t c, ?_, ?_⟩
  rotate_left
  · rw [e_in (by omega) (by omega)]
    refine ⟨fun q => ⟨?_, h4⟩, fun q => ⟨?_, h4⟩⟩
    · rw [if_neg q]
    · rw [if_pos q]
  rintro _ M5 ⟨rfl, h5⟩
  have hsum : (if pcn (G 16) = G 0 then 1 else 0) + smB (fun b => if okS (cor G) b (G 16) then wS (cor G) (G 16 ||| 2 ^ b) else 0) (G 0) = wS (cor G) (G 16) := by
    rw [hfix, cor_0]
    rw [cor_0] at hfull
    by_cases q : pcn (G 16) = G 0
    · rw [if_pos q, if_pos (hfull.mpr q)]
    · rw [if_neg q, if_neg (fun w => q (hfull.mp w))]
  refine lq_behind (s0 := if pcn (G 16) = G 0 then 1 else 0) hf hs (fun ko' M6 h6 => ?_) FU 0 M5 ko (Nat.zero_le _) (by show _ ≤ 1000 + 0; omega) h5
  rw [hsum]
  have ok : ∀ ko' (M : Mem), ST M G ko' t c → ((¬ nI (wS (cor G) (G 16)) = nI (wS (cor G) (G 16)) → Q (nI 0) M) ∧ (nI (wS (cor G) (G 16)) = nI (wS (cor G) (G 16)) → Q (nI 1) M)) := fun ko' M hM => ⟨fun q => absurd rfl q, fun _ => hQ ko' M hM⟩
  refine ⟨fun M => ∃ ko', ST M G ko' t c, fun M7 ⟨ko7, h7'⟩ => ok ko7 M7 h7', fun _ => ⟨ko', h6⟩, fun ne => ⟨fun un => ⟨fun q => absurd rfl q, fun _ => ?_⟩, fun _ => ⟨ko', h6⟩⟩⟩
  have hfs : f ≠ s := fun e => ne (by rw [e])
  have op : ¬ ((G 16).testBit f = true ∨ (G 16).testBit s = true) := fun w => un (by unfold mwV; rw [if_pos w])
  have f0 : (G 16).testBit f = false := by
    by_cases w : (G 16).testBit f = true
    · exact absurd (Or.inl w) op
    · simpa using w
  have s0 : (G 16).testBit s = false := by
    by_cases w : (G 16).testBit s = true
    · exact absurd (Or.inr w) op
    · simpa using w
  have hfl := fl_wC (S := cor G) h.v.cv (by rw [cor_0]; exact hf) (by rw [cor_0]; exact hs) hfs ⟨hd, Nat.and_self _, f0, s0⟩
  rw [cor_0] at hfl
  have hle := flF_le (pbB (cor G) (G 16) f s) (G 0)
  refine ⟨fun b M => b = mwV G f s ∧ ∃ ko', ST M G ko' t c, ?_, ?_⟩
  · rintro _ M7 ⟨rfl, ko7, h7'⟩
    exact ⟨fun q => absurd rfl q, fun _ => hQ ko7 M7 h7'⟩
  · unfold mwV
    rw [if_neg op, if_neg hfs, z_in hwl, z_in (by omega)]
    refine ⟨fun q => ⟨fun q1 => ⟨?_, ko', h6⟩, fun q1 => ⟨?_, ko', h6⟩⟩, fun q => ⟨?_, ko', h6⟩⟩
    · rw [if_neg q, if_pos (hfl.mp q1)]
    · rw [if_neg q, if_neg (fun w => q1 (hfl.mpr w))]
    · rw [if_pos q]
