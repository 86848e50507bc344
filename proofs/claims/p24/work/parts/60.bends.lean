/-! the law's areBendsSo: always so -/
theorem fr_ST {M : Mem} {P : Int32 → Mem → Prop} {x : Int32} {G : GN} {ko : Option GN} {t : Nat} {c : GN} (hP : ∀ M', ST M' G ko t c → (∀ a, 46 ≤ a → M' a = M a) → P x M') : ∀ M2, ST M2 G ko t c → fr M P x M2 :=
  fun M2 h => hP (frm M M2) h.frm (fun a ha => frm_ge ha)
theorem rsn_1 (S : GN) (b d v : Nat) : rsn S b d v = 1 ↔ d.testBit b = true := by
  unfold rsn
  by_cases c : d.testBit b = true
  · rw [if_pos c]; exact ⟨fun _ => c, fun _ => rfl⟩
  · rw [if_neg c]
    refine ⟨fun h => ?_, fun h => absurd h c⟩
    repeat' (split at h)
    all_goals exact absurd h (by decide)
theorem rsn_2 {S : GN} {b d v : Nat} (hd : d.testBit b = false) : rsn S b d v = 2 ↔ S (9 + b) = v := by
  unfold rsn
  rw [if_neg (by rw [hd]; decide)]
  by_cases c : S (9 + b) = v
  · rw [if_pos c]; exact ⟨fun _ => c, fun _ => rfl⟩
  · rw [if_neg c]
    refine ⟨fun h => ?_, fun h => absurd h c⟩
    repeat' (split at h)
    all_goals exact absurd h (by decide)
theorem rsn_s4 {S : GN} {b d v : Nat} (h : rsn S b d v = 4) : stkS S b d v ≠ 0 := by
  intro z
  have e : anyF (S 0) (fun f => uppB S (bxF S b d v f) || uppB S (bxS S b d v f)) = false := by
    rw [anyF_bs]
    exact decide_eq_false (fun q => q z)
  unfold rsn at h
  rw [e] at h
  simp only [Bool.false_eq_true, if_false] at h
  repeat' (split at h)
  all_goals exact absurd h (by decide)
theorem rsn_s0 {S : GN} {b d v : Nat} (h : rsn S b d v = 0) : stkS S b d v = 0 := by
  refine Classical.byContradiction fun z => ?_
  have e : anyF (S 0) (fun f => uppB S (bxF S b d v f) || uppB S (bxS S b d v f)) = true := by
    rw [anyF_bs]
    exact decide_eq_true z
  unfold rsn at h
  rw [e] at h
  simp only [if_true] at h
  repeat' (split at h)
  all_goals exact absurd h (by decide)
theorem stk_lt {S : GN} (hS : CV S) (b d v : Nat) : stkS S b d v < 2 ^ 31 := bsB_8 _ hS.1.2
theorem e_in {a b : Nat} (ha : a < 2 ^ 31) (hb : b < 2 ^ 31) : (nI a = nI b) = (a = b) := propext (nI_eq ha hb)
theorem z_in {a : Nat} (ha : a < 2 ^ 31) : (nI a = 0) = (a = 0) := propext (nI_z ha)
theorem back_d : ∀ a, a < 10 → ∀ b, b < 10 → ((nI a - nI b) + nI 1 ≤ 0 → nI 0 = nI (a + 1 - b)) ∧ (¬ (nI a - nI b) + nI 1 ≤ 0 → (nI a - nI b) + nI 1 = nI (a + 1 - b)) := by decide +kernel
theorem gE_b (S : GN) (b d v : Nat) : gE S b d v b = (-(S (1 + b) : Int), 0) := by
  have e : gF S b d v b = (0, 0, 2) := by
    have := gF_L (S := S) (b := b) (d := d) (v := v) (i := 0) (Nat.zero_le _)
    exact this
  unfold gE
  rw [e]
  simp [gdx, gdy]
theorem gE_c (S : GN) (b d v : Nat) : gE S b d v (b + 1) = ((S (1 + (b + 1)) : Int), 0) := by
  have e : gF S b d v (b + 1) = (0, 0, 0) := gF_R (S := S) (b := b) (d := d) (v := v) (i := 0)
  unfold gE
  rw [e]
  simp [gdx, gdy]
section BEND
variable {M : Mem} {G : GN} {ko : Option GN} {t : Nat} {c : GN} {Q : Int32 → Mem → Prop}
theorem pc_endB {b e : Nat} (h : ST M G ko t c) (hb : b < G 0) (he : e ≤ 1) (hQ : ∀ M', ST M' G ko t c → Q (if e = 1 then nI 0 else -(nI (G (1 + b)))) M') : w_X6_end (nI b) (nI b) (nI e) M Q := by
  refine pc_end h hb (by omega) he (fun M' h' => ?_)
  have := hQ M' h'
  rw [gE_b, cor_f h.v.1.2 (by omega)]
  have e0 : iI 0 = nI 0 := by decide
  by_cases q : e = 1
  · rw [if_pos q] at this ⊢
    rw [e0]; exact this
  · rw [if_neg q] at this ⊢
    rw [← iI_neg, iI_nat]; exact this
theorem pc_endC {b e : Nat} (h : ST M G ko t c) (hb : b < G 0) (he : e ≤ 1) (hQ : ∀ M', ST M' G ko t c → Q (if e = 1 then nI 0 else nI (G (1 + (b + 1)))) M') : w_X6_end (nI b) (nI (b + 1)) (nI e) M Q := by
  refine pc_end h hb (by omega) he (fun M' h' => ?_)
  have := hQ M' h'
  rw [gE_c, cor_f h.v.1.2 (by omega)]
  have e0 : iI 0 = nI 0 := by decide
  by_cases q : e = 1
  · rw [if_pos q] at this ⊢
    rw [e0]; exact this
  · rw [if_neg q] at this ⊢
    rw [iI_nat]; exact this
end BEND
theorem b01 {x : Nat} (hx : x ≤ 1) {K : Int32 → Mem → Prop} {M : Mem} (h : K (nI x) M) : (¬ nI x = nI 1 → K (nI 0) M) ∧ (nI x = nI 1 → K (nI 1) M) := by
  rcases (show x = 0 ∨ x = 1 by omega) with rfl | rfl
  · exact ⟨fun _ => h, fun z => absurd z (by decide)⟩
  · exact ⟨fun z => absurd rfl z, fun _ => h⟩
theorem b0z {x : Nat} (hx : x ≤ 1) {K : Int32 → Mem → Prop} {M : Mem} (h : K (nI x) M) : (nI x = 0 → K (nI 0) M) ∧ (¬ nI x = 0 → K (nI 1) M) := by
  rcases (show x = 0 ∨ x = 1 by omega) with rfl | rfl
  · exact ⟨fun _ => h, fun z => absurd rfl z⟩
  · exact ⟨fun z => absurd z (by decide), fun _ => h⟩
set_option maxHeartbeats 4000000 in
theorem lq_bends {G : GN} {ko : Option GN} {t : Nat} {c : GN} {K : Int32 → Int32 → Int32 → Int32 → Int32 → Mem → Prop}
    (hK : ∀ M', ST M' G ko t c → K (nI (smB (fun b => if (G 16).testBit b then 1 else 0) (G 0))) (nI (nowB G)) (nI (smB (fun f => G (1 + f)) (G 0 + 1))) (nI 1) (nI (G 0)) M') :
    ∀ (n j : Nat) (M : Mem), j ≤ G 0 → G 0 + 1 ≤ n + j → ST M G ko t c → w_L_areBendsSo_40 n (nI (smB (fun b => if (G 16).testBit b then 1 else 0) j)) (nI (bsB (fun b => decide (rsn (cor G) b (G 16) (G 17) = 0)) j)) (nI (G (1 + G 0) + smB (fun f => G (1 + f)) j)) (nI 1) (nI j) M K := by
  intro n
  induction n with
  | zero => intro j M h1 h2; omega
  | succ n ih =>
    intro j M hj hn h
    have h7 := h.v.1.2
    unfold w_L_areBendsSo_40
    rw [nI_add j 1]
    refine pc_count0 h (fr_ST (fun M1 h1 _ => ⟨fun z => ?_, fun z => ?_⟩) M h)
    · rw [nI_leI (by omega) (by omega)] at z
      have e : j = G 0 := by omega
      subst e
      have := hK M1 h1
      unfold nowB at this
      rw [show smB (fun f => G (1 + f)) (G 0 + 1) = G (1 + G 0) + smB (fun f => G (1 + f)) (G 0) from Nat.add_comm _ _] at this
      exact this
    · rw [nI_leI (by omega) (by omega)] at z
      have hjn : j < G 0 := by omega
      refine pc_ofBend2 h1 hjn (fr_ST (fun M2 h2 _ => ?_))
      refine pc_ofBend4 h2 hjn (fr_ST (fun M3 h3 _ => ?_))
      refine pc_count11 h3 (fr_ST (fun M4 h4 _ => ?_) M3 h3)
      refine pc_lengthOf h4 (by omega) (fr_ST (fun M5 h5 _ => ?_) M4 h4)
      rintro y24 e24
      refine pc_ofBend1 h5 hjn (fr_ST (fun M6 h6 _ => ?_) M5 h5)
      have hU := h.v.2.2.1 j hjn
      have hV := h.v.2.2.2.2.1
      have hL := (h.v.2.1 (j + 1) (by omega)).2
      have hG21 := h.v.2.2.2.2.2.2.2.2
      have hr := rsn_le (cor G) j (G 16) (G 17)
      have hr' := rsn_le (cor G) j (G 16) (1 - G 17)
      have f1 := rsn_1 (cor G) j (G 16) (G 17)
      have f1' := rsn_1 (cor G) j (G 16) (1 - G 17)
      have f2 := rsn_2 (S := cor G) (b := j) (d := G 16) (v := G 17)
      have f2' := rsn_2 (S := cor G) (b := j) (d := G 16) (v := 1 - G 17)
      rw [cor_b hjn] at f2 f2'
      have s0 := rsn_s0 (S := cor G) (b := j) (d := G 16) (v := G 17)
      have s4 := rsn_s4 (S := cor G) (b := j) (d := G 16) (v := G 17)
      have sl := stk_lt h.v.cv j (G 16) (G 17)
      have ihj := ih (j + 1)
      rw [show smB (fun b => if (G 16).testBit b then 1 else 0) (j + 1) = smB (fun b => if (G 16).testBit b then 1 else 0) j + (if (G 16).testBit j then 1 else 0) from rfl,
        show bsB (fun b => decide (rsn (cor G) b (G 16) (G 17) = 0)) (j + 1) = if decide (rsn (cor G) j (G 16) (G 17) = 0) then bsB (fun b => decide (rsn (cor G) b (G 16) (G 17) = 0)) j ||| 2 ^ j else bsB (fun b => decide (rsn (cor G) b (G 16) (G 17) = 0)) j from rfl,
        show smB (fun f => G (1 + f)) (j + 1) = smB (fun f => G (1 + f)) j + G (1 + j) from rfl] at ihj
      obtain ⟨T, hT, eT, t1, t0⟩ : ∃ T : Nat, T ≤ 1 ∧ T = (if (G 16).testBit j then 1 else 0) ∧ ((G 16).testBit j = true ↔ T = 1) ∧ ((G 16).testBit j = false ↔ T = 0) := by
        by_cases q : (G 16).testBit j = true
        · exact ⟨1, by decide, by rw [if_pos q], by simp [q], by simp [q]⟩
        · exact ⟨0, by decide, by rw [if_neg q], by simp [q], by simpa using q⟩
      rw [t1] at f1 f1'
      rw [t0] at f2 f2'
      rw [← eT] at ihj ⊢
      have hend := fun (M' : Mem) (h' : ST M' G ko t c) (Q : Int32 → Mem → Prop) (hQ : ∀ M', ST M' G ko t c → Q (nI (stkS (cor G) j (G 16) (G 17))) M') => pc_strikers h' hjn hQ
      generalize rsn (cor G) j (G 16) (G 17) = r at hr f1 f2 s0 s4 ihj ⊢
      generalize rsn (cor G) j (G 16) (1 - G 17) = r' at hr' f1' f2' ⊢
      generalize stkS (cor G) j (G 16) (G 17) = sk at s0 s4 sl hend
      refine ⟨fun b M => b = nI T ∧ ST M G ko t c, ?_, b01 (K := fun b M => b = nI T ∧ ST M G ko t c) hT ⟨rfl, h6⟩⟩
      rintro _ M7 ⟨rfl, h7'⟩
      refine pc_ofBend0 h7' hjn (fr_ST (fun M8 h8 _ => ?_) M7 h7')
      refine ⟨fun b M => b = nI (G (9 + j)) ∧ ST M G ko t c, ?_, b01 (K := fun b M => b = nI (G (9 + j)) ∧ ST M G ko t c) hU ⟨rfl, h8⟩⟩
      rintro _ M9 ⟨rfl, h9⟩
      refine pc_count2 h9 (fr_ST (fun M10 h10 _ => ?_) M9 h9)
      refine ⟨fun b M => b = nI (1 - G 17) ∧ ST M G ko t c, ?_, ?_⟩
      rotate_left
      · refine ⟨fun q => ⟨?_, h10⟩, fun q => ⟨?_, h10⟩⟩
        · have : G 17 ≠ 0 := fun e => q (by rw [e]; rfl)
          rw [show 1 - G 17 = 0 by omega]
        · rw [(nI_z (by omega)).mp q]
      rintro _ M11 ⟨rfl, h11⟩
      refine ⟨fun b M => b = nI (if G (9 + j) = 1 - G 17 then 1 else 0) ∧ ST M G ko t c, ?_, ?_⟩
      rotate_left
      · refine ⟨fun q => ⟨?_, h11⟩, fun q => ⟨?_, h11⟩⟩
        · rw [if_neg (fun e => q (by rw [e]))]
        · rw [if_pos (nI_inj (by omega) (by omega) q)]
      rintro _ M12 ⟨rfl, h12⟩
      refine ⟨fun b M => b = nI T ∧ ST M G ko t c, ?_, b0z (K := fun b M => b = nI T ∧ ST M G ko t c) hT ⟨rfl, h12⟩⟩
      rintro _ M13 ⟨rfl, h13⟩
      rintro _ rfl
      refine ⟨fun b M => b = nI (if r = 0 then 2 ^ j else 0) ∧ ST M G ko t c, ?_, ?_⟩
      rotate_left
      · rw [z_in (by omega)]
        refine ⟨fun q => ⟨?_, h13⟩, fun q => ⟨?_, h13⟩⟩
        · rw [if_neg q]
        · rw [if_pos q, bit_set8 j (by omega)]
      rintro _ M14 ⟨rfl, h14⟩
      rintro _ rfl
      refine pc_lengthOf h14 (by omega) (fr_ST (fun M15 h15 _ => ?_) M14 h14)
      rintro _ rfl
      refine ⟨fun b M => b = nI 1 ∧ ST M G ko t c, ?_, ?_⟩
      · rintro _ M16 ⟨rfl, h16⟩
        refine ⟨fun b M => b = nI 1 ∧ ST M G ko t c, ?_, ?_⟩
        · rintro _ M17 ⟨rfl, h17⟩
          rintro _ rfl
          have := ihj M17 (by omega) (by omega) h17
          rw [nI_add, nI_or, nI_add, Nat.add_assoc]
          by_cases q : r = 0
          · rw [if_pos q]
            rw [if_pos (by simpa using q)] at this
            exact this
          · rw [if_neg q, Nat.or_zero]
            rw [if_neg (by simpa using q)] at this
            exact this
        · refine ⟨fun q => absurd q (by decide), fun _ => ?_⟩
          refine pc_endB h16 hjn (by decide) (fr_ST (fun M17 h17 _ => ?_))
          refine ⟨fun q => absurd rfl q, fun _ => ?_⟩
          refine pc_endB h17 hjn (by decide) (fr_ST (fun M18 h18 _ => ?_))
          refine pc_lengthOf h18 (by omega) (fr_ST (fun M19 h19 _ => ?_) M18 h18)
          refine ⟨fun q => absurd rfl q, fun _ => ?_⟩
          refine pc_endC h19 hjn (by decide) (fr_ST (fun M20 h20 _ => ?_))
          refine ⟨fun q => absurd rfl q, fun _ => ?_⟩
          refine pc_endC h20 hjn (by decide) (fr_ST (fun M21 h21 _ => ?_))
          refine pc_lengthOf h21 (by omega) (fr_ST (fun M22 h22 _ => ?_) M21 h21)
          exact ⟨fun q => absurd rfl q, fun _ => ⟨rfl, h22⟩⟩
      · refine ⟨fun q => absurd q (by decide), fun _ => ?_⟩
        refine ⟨fun b M => b = nI T ∧ ST M G ko t c, ?_, ?_⟩
        rotate_left
        · rw [e_in (a := r) (b := 1) (by omega) (by decide)]
          refine ⟨fun q => ⟨?_, h15⟩, fun q => ⟨?_, h15⟩⟩
          · rw [show T = 0 by omega]
          · rw [show T = 1 by omega]
        rintro _ M16 ⟨rfl, h16⟩
        refine ⟨fun q => absurd rfl q, fun _ => ?_⟩
        refine ⟨fun b M => b = nI T ∧ ST M G ko t c, ?_, ?_⟩
        rotate_left
        · rw [e_in (a := r') (b := 1) (by omega) (by decide)]
          refine ⟨fun q => ⟨?_, h16⟩, fun q => ⟨?_, h16⟩⟩
          · rw [show T = 0 by omega]
          · rw [show T = 1 by omega]
        rintro _ M17 ⟨rfl, h17⟩
        refine ⟨fun q => absurd rfl q, fun _ => ?_⟩
        refine ⟨fun M => ST M G ko t c, ?_, ?_⟩
        rotate_left
        · rw [e_in (a := r) (b := 2) (by omega) (by decide), e_in (a := r') (b := 2) (by omega) (by decide), z_in (a := T) (by omega), z_in (a := if G (9 + j) = 1 - G 17 then 1 else 0) (by split <;> decide)]
          refine ⟨fun _ => h17, fun q => ⟨fun q1 => ⟨fun q2 => ?_, fun q2 => ⟨fun q3 => ?_, fun _ => h17⟩⟩, fun q1 => ⟨fun q2 => ?_, fun q2 => ⟨fun q3 => ?_, fun _ => h17⟩⟩⟩⟩
          · have q1 : ¬ G (9 + j) = 1 - G 17 := fun e => by rw [if_pos e] at q1; cases q1
            omega
          · have q1 : ¬ G (9 + j) = 1 - G 17 := fun e => by rw [if_pos e] at q1; cases q1
            omega
          · have q1 : G (9 + j) = 1 - G 17 := Classical.byContradiction fun e => q1 (if_neg e)
            omega
          · have q1 : G (9 + j) = 1 - G 17 := Classical.byContradiction fun e => q1 (if_neg e)
            omega
        intro M18 h18
        refine ⟨fun q => absurd q (nI_neg (by omega)), fun _ => ⟨fun q => ?_, fun _ => ?_⟩⟩
        · rw [nI_leI (by decide) (by omega)] at q; omega
        refine ⟨fun M => ST M G ko t c, ?_, ?_⟩
        rotate_left
        · rw [z_in (a := r) (by omega)]
          refine ⟨fun _ => h18, fun q => hend M18 h18 _ (fr_ST (fun M19 h19 _ => ?_))⟩
          rw [s0 q]
          exact ⟨fun z => absurd rfl z, fun _ => h19⟩
        intro M19 h19
        refine ⟨fun M => ST M G ko t c, ?_, ?_⟩
        rotate_left
        · rw [e_in (a := r) (b := 4) (by omega) (by decide)]
          refine ⟨fun _ => h19, fun q => hend M19 h19 _ (fr_ST (fun M20 h20 _ => ?_))⟩
          rw [nI_gt0 sl]
          exact ⟨fun z => absurd z (s4 q), fun _ => h20⟩
        intro M20 h20
        refine pc_ofBend3 h20 hjn (fr_ST (fun M21 h21 _ => ?_) M20 h20)
        refine ⟨fun b M => b = nI (G 21 + 1 - G (1 + (j + 1))) ∧ ST M G ko t c, ?_, ?_⟩
        rotate_left
        · obtain ⟨d1, d2⟩ := back_d (G 21) (by omega) (G (1 + (j + 1))) (by omega)
          subst e24
          exact ⟨fun q => ⟨d1 q, h21⟩, fun q => ⟨d2 q, h21⟩⟩
        rintro _ M22 ⟨rfl, h22⟩
        rw [nI_add]
        exact ⟨fun q => absurd rfl q, fun _ => ⟨rfl, h22⟩⟩
theorem done_sum {G : GN} (hV : VG G) : smB (fun b => if (G 16).testBit b then 1 else 0) (G 0) = pcn (G 16) := by
  rw [← pck_7 _ hV.d]
  refine (pck_sum hV.1.2 (fun j hj => ?_) (fun j _ => by split <;> decide)).symm
  by_cases c : j < G 0
  · by_cases q : (G 16).testBit j = true <;> simp [c, q]
  · have := Nat.testBit_lt_two_pow (x := G 16) (i := j) (Nat.lt_of_lt_of_le hV.2.2.2.1 (Nat.pow_le_pow_right (by decide) (by omega)))
    simp [c, this]
theorem pl_areBendsSo {M : Mem} {G : GN} {ko : Option GN} {t : Nat} {c : GN} {Q : Int32 → Mem → Prop} (h : ST M G ko t c) (hQ : ∀ M', ST M' G ko t c → Q (nI 1) M') : w_L_areBendsSo M Q := by
  unfold w_L_areBendsSo
  have h7 := h.v.1.2
  refine pc_count0 h (fr_ST (fun M1 h1 _ => ?_) M h)
  refine pc_lengthOf h1 (Nat.le_refl _) (fr_ST (fun M2 h2 _ => ?_) M1 h1)
  refine pc_count0 h2 (fr_ST (fun M3 h3 _ => ?_) M2 h2)
  refine pc_ofBendN h3 (fr_ST (fun M4 h4 _ => ?_) M3 h3)
  refine ⟨fun b M => b = nI 1 ∧ ST M G ko t c, ?_, fun z => absurd rfl z, fun _ => ⟨rfl, h4⟩⟩
  rintro _ M5 ⟨rfl, h5⟩
  refine lq_bends (G := G) (ko := ko) (t := t) (c := c) (fun M6 h6 => ?_) FU 0 M5 (Nat.zero_le _) (by show _ ≤ 1000 + 0; omega) h5
  refine ⟨fun z => absurd z (by decide), fun _ => ?_⟩
  refine pc_count1 h6 (fr_ST (fun M7 h7 _ => ?_) M6 h6)
  rw [done_sum h.v]
  refine ⟨fun z => absurd rfl z, fun _ => ?_⟩
  refine pc_count4 h7 (fr_ST (fun M8 h8 _ => ?_))
  refine ⟨fun z => absurd rfl z, fun _ => ?_⟩
  refine pc_count6 h8 (fr_ST (fun M9 h9 _ => ?_) M8 h8)
  exact ⟨fun z => absurd rfl z, fun _ => hQ M9 h9⟩
