/-! bend, and what is told of a bend -/
theorem REL.work {MC MM MC' MM' : Mem} (h : REL MC MM) (fC : ∀ a, a ≤ 22 → MC' a = MC a) (hP' : PLN MC') (fM : ∀ a, 1 ≤ a → a ≤ 4 → MM' a = MM a) (f0 : ∀ s, s ≠ 10 → MM' 0 s = MM 0 s) : REL MC' MM' := by
  obtain ⟨⟨G, hV, hC, hR⟩, ⟨k, H, hH, hM, hHV⟩, hK, hT, -⟩ := h
  refine ⟨⟨G, hV, hC.kept (fC _ (by decide)) (fC _ (by decide)) (fC _ (by decide)), by rw [fM 1 (by decide) (by decide)]; exact hR⟩, ⟨k, H, hH.kept (fun a a1 a2 => fC a (by omega)), hM.kept (f0 2 (by decide)) (fM 2 (by decide) (by decide)), hHV⟩, ?_, ?_, hP'⟩
  · unfold KP
    rw [fC 0 (by decide), f0 4 (by decide), fM 3 (by decide) (by decide)]
    rcases hK with hK | ⟨h1, h2, G, h3, h4, h5⟩
    · exact Or.inl hK
    · exact Or.inr ⟨h1, h2, G, h3, h4.kept (fC _ (by decide)) (fC _ (by decide)) (fC _ (by decide)), h5⟩
  · unfold TX
    rw [fC 21 (by decide), fC 22 (by decide), f0 6 (by decide), fM 4 (by decide) (by decide)]
    exact hT
theorem REL.pln {MC MM : Mem} (h : REL MC MM) : PLN MC := h.2.2.2.2
theorem REL.geoC {MC MM MC' : Mem} (h : REL MC MM) (fC : ∀ a, a < 23 + 1 ∨ 23 + 7 < a → MC' a = MC a) : REL MC' MM :=
  h.work (fun a ha => fC a (by omega)) (h.pln.kept (fC _ (by decide)) (fC _ (by decide)) (fC _ (by decide)) (fC _ (by decide)) (fC _ (by decide)) (fC _ (by decide))) (fun _ _ _ => rfl) (fun _ _ => rfl)
theorem REL.geoM {MC MM MM' : Mem} (h : REL MC MM) (fM : PFR MM MM') : REL MC MM' :=
  h.work (fun _ _ => rfl) h.pln (fun a a1 a4 => fM.1 a (by omega) (by omega) (by omega) (by omega)) fM.2
theorem rsn_le (S : Nat → Nat) (b d v : Nat) : rsn S b d v ≤ 6 := by
  unfold rsn
  repeat' split
  all_goals omega
theorem rsn_0 {S : Nat → Nat} {b d v : Nat} (h : rsn S b d v = 0) : d.testBit b = false := by
  unfold rsn at h
  by_cases c : d.testBit b = true
  · rw [if_pos c] at h; cases h
  · simpa using c
theorem iI_sub (a b : Int) : iI a - iI b = iI (a - b) := (Int32.ofInt_sub a b).symm
theorem pr_bend {MC MM : Mem} {a : Int32} (h : REL MC MM) : w_X6_bend a MC (EQA MM (w_X7_bend a)) := by
  obtain ⟨⟨G, hV, hC, hR⟩, ⟨k, H, hH, hM, hHV⟩, -⟩ := id h
  have h7 := hV.1.2
  have h17 : G 17 ≤ 1 := hV.2.2.2.2.1
  unfold w_X6_bend
  refine pw_hasBend hC.1 h7 (fun hno => ⟨fun c => absurd rfl c, fun _ => ?_⟩) (fun b hb e => ⟨fun _ => ?_, fun c => absurd c (by decide)⟩)
  · show w_X7_bend a MM _
    unfold w_X7_bend
    exact pw_isBend (hR 0 (by decide)) hV.1.1 h7 (fun _ => ⟨fun c => absurd rfl c, fun _ => ⟨rfl, h⟩⟩) (fun b hb e => absurd e (hno b hb))
  · subst e
    rw [hC.2.2.1, hC.2.2.2.1]
    have hbc : b < cor G 0 := by rw [cor_0]; exact hb
    refine pw_reason (by decide) hV.cv (hC.cc hV) hbc hV.d h17 (fun MC1 f1 => ?_)
    have h1 := h.geoC f1
    have hC1 : CS MC1 1 G := hC.kept (f1 _ (by decide)) (f1 _ (by decide)) (f1 _ (by decide))
    have hH1 : HC MC1 k H := hH.kept (fun a a1 a2 => f1 a (by omega))
    have hr0 := rsn_le (cor G) b (G 16) (G 17)
    have hbit := rsn_0 (S := cor G) (b := b) (d := G 16) (v := G 17)
    have key : ∀ (Q : Int32 → Mem → Prop), (∀ MM1, PFR MM MM1 → ((nI (rsn (cor G) b (G 16) (G 17)) = 0 → w_X7_know MM1 (fun M7 => w_X7_does (nI b) M7 (fun v9 M8 => Q v9 M8))) ∧ (¬ nI (rsn (cor G) b (G 16) (G 17)) = 0 → Q (-1004) MM1))) → w_X7_bend (nI b) MM Q := by
      intro Q hQ
      unfold w_X7_bend
      refine pw_isBend (hR 0 (by decide)) hV.1.1 h7 (fun hno => absurd rfl (hno b hb)) (fun _ _ _ => ⟨fun _ => ?_, fun c => absurd c (by decide)⟩)
      rw [hR 16 (by decide), hR 17 (by decide)]
      exact pw_reason7 hV.cv (hR.rc hV) hbc hV.d h17 hQ
    generalize rsn (cor G) b (G 16) (G 17) = r at hr0 hbit key ⊢
    refine ⟨fun c => ?_, fun c => ?_⟩
    · refine pw_record hC1 h17 hH1 (fun M1 hH2 f2 => ?_)
      have hC2 : CS M1 1 G := hC1.kept (f2 _ (by decide)) (f2 _ (by decide)) (f2 _ (by decide))
      unfold w_X4_doBend
      rintro _ rfl _ rfl
      have hlt := bit_lt2 (G 0) (by omega) (G 16) hV.2.2.2.1 b hb
      have hVd := VG_bdg (VG_done hV hlt) (G 22 + 1)
      have e16 : upG (upG G 16 (G 16 ||| 2 ^ b)) 22 (G 22 + 1) 16 = G 16 ||| 2 ^ b := by rw [upG_n (by decide), upG_s]
      rw [hC2.2.2.1, bit_set _ hV.d b (by omega), um_s, upd_n (show (4 : Nat) ≠ 2 by decide), hC2.2.2.2.2.1, nI_add]
      have hC3 := CS_bdg (CS_done hC2 (G 16 ||| 2 ^ b)) (G 22 + 1)
      rw [um_s] at hC3
      have hd128 := bit_or_lt (G 16) hV.d b (by omega)
      refine pw_doneBends hC3.2.2.1 (by rw [e16]; exact hd128) ?_
      refine key _ (fun MM1 g => ?_)
      refine ⟨fun _ => ?_, fun c' => absurd c c'⟩
      have h2 := h1.geoM g
      have hR1 : RG (MM1 1) G := by rw [g.1 1 (by decide) (by decide) (by decide) (by decide)]; exact hR
      have hM1 : HM MM1 k H := hM.kept (g.2 2 (by decide)) (g.1 2 (by decide) (by decide) (by decide) (by decide))
      refine pw_know hR1 hM1 (fun M2 hM2 g1 g2 => ?_)
      unfold w_X7_does
      rintro _ rfl _ rfl
      have hR2 : RG (M2 1) G := by rw [g1 1 (by decide) (by decide)]; exact hR1
      have hR3 := RG_set (RG_set hR2 16 (G 16 ||| 2 ^ b)) 22 (G 22 + 1)
      rw [hR2 16 (by decide), bit_set _ hV.d b (by omega), um_s, um_s M2 1, upd_n (show (22 : Nat) ≠ 16 by decide), hR2 22 (by decide), nI_add, upd_n (show (16 : Nat) ≠ 22 by decide), upd_s]
      refine pw_many hd128 ⟨by rw [e16], h2.act hVd hC3 (by rw [um_s]; exact hR3) (hH2.kept (fun a a1 a2 => by rw [um_n (by omega), um_n (by omega)])) (hM2.kept (by rw [um_n (by decide), um_n (by decide)]) (by rw [um_n (by decide), um_n (by decide)])) (push_ok hHV hM.1 hV) (fun a ha => ?_) ?_ ?_ ?_⟩
      · rw [um_n (by omega), um_n (by omega)]; exact f2 a (by omega)
      · rw [um_n (by decide), um_n (by decide)]; exact g1 3 (by decide) (by decide)
      · rw [um_n (by decide), um_n (by decide)]; exact g1 4 (by decide) (by decide)
      · intro j hj; rw [um_n (by decide), um_n (by decide)]; exact g2 j hj
    · refine key _ (fun MM1 g => ⟨fun c' => absurd c' c, fun _ => ⟨rfl, h1.geoM g⟩⟩)
theorem pr_ofBend {MC MM : Mem} {a w : Int32} (h : REL MC MM) : w_X6_ofBend a w MC (EQA MM (w_X7_ofBend a w)) := by
  obtain ⟨⟨G, hV, hC, hR⟩, -⟩ := id h
  have h7 := hV.1.2
  have h17 : G 17 ≤ 1 := hV.2.2.2.2.1
  unfold w_X6_ofBend
  refine pw_hasBend hC.1 h7 (fun hno => ⟨fun c => absurd rfl c, fun _ => ?_⟩) (fun b hb e => ⟨fun _ => ?_, fun c => absurd c (by decide)⟩)
  · show w_X7_ofBend a w MM _
    unfold w_X7_ofBend
    exact pw_isBend (hR 0 (by decide)) hV.1.1 h7 (fun _ => ⟨fun c => absurd rfl c, fun _ => ⟨rfl, h⟩⟩) (fun b hb e => absurd e (hno b hb))
  · subst e
    have hbc : b < cor G 0 := by rw [cor_0]; exact hb
    have hub := hV.2.2.1 b hb
    have reas : ∀ (v : Nat) (x : (Int32 → Mem → Prop) → Prop), v ≤ 1 → (∀ (Q : Int32 → Mem → Prop), w_X7_reason (nI b) (MM 1 16) (nI v) MM (fun v17 M16 => Q v17 M16) → x Q) → w_X2_reason 23 1 (nI b) (MC 1 2) (nI v) MC (fun v' M' => EQA MM (fun _ Q => x Q) v' M') := by
      intro v x hv hx
      rw [hC.2.2.1]
      refine pw_reason (by decide) hV.cv (hC.cc hV) hbc hV.d hv (fun MC1 f1 => ?_)
      refine hx _ ?_
      rw [hR 16 (by decide)]
      exact pw_reason7 hV.cv (hR.rc hV) hbc hV.d hv (fun MM1 g => ⟨rfl, (h.geoC f1).geoM g⟩)
    have key : ∀ (Q : Int32 → Mem → Prop), ((w = nI 0 → (vp_in ((nI 9) + nI b) 23 ∧ Q (MM 1 ((nI 9) + nI b).toNatClampNeg) MM)) ∧ (¬ w = nI 0 → ((w = nI 1 → w_X7_has (MM 1 16) (nI b) MM (fun v7 M6 => ((v7 = 0 → Q (nI 0) M6) ∧ (¬ v7 = 0 → Q (nI 1) M6)))) ∧ (¬ w = nI 1 → ((w = nI 2 → w_X7_reason (nI b) (MM 1 16) (MM 1 17) MM (fun v11 M10 => Q v11 M10)) ∧ (¬ w = nI 2 → ((w = nI 3 → w_X7_degrees (nI b) MM (fun v14 M13 => Q v14 M13)) ∧ (¬ w = nI 3 → ((w = nI 4 → w_X7_reason (nI b) (MM 1 16) ((nI 1) - (MM 1 17)) MM (fun v17 M16 => Q v17 M16)) ∧ (¬ w = nI 4 → Q (-1002 : Int32) MM)))))))))) → w_X7_ofBend (nI b) w MM Q := by
      intro Q hQ
      unfold w_X7_ofBend
      exact pw_isBend (hR 0 (by decide)) hV.1.1 h7 (fun hno => absurd rfl (hno b hb)) (fun _ _ _ => ⟨fun _ => hQ, fun c => absurd c (by decide)⟩)
    refine ⟨fun w0 => ?_, fun w0 => ⟨fun w1 => ?_, fun w1 => ⟨fun w2 => ?_, fun w2 => ⟨fun w3 => ?_, fun w3 => ⟨fun w4 => ?_, fun w4 => ?_⟩⟩⟩⟩⟩
    · refine pw_isUp hC hV hb ?_
      refine pw_asNumber (by split <;> decide) ?_
      refine key _ ⟨fun _ => ?_, fun z => absurd w0 z⟩
      rw [nI_add, nI_clamp (by omega), hR _ (by omega)]
      refine ⟨vp_in_nI (by omega) (by decide), ?_, h⟩
      rw [show (if G (9 + b) = 1 then 1 else 0) = G (9 + b) by split <;> omega]
    · refine pw_isDone hC.2.2.1 hV.d (by omega) ?_
      refine pw_asNumber (by split <;> decide) ?_
      refine key _ ⟨fun z => absurd z w0, fun _ => ⟨fun _ => ?_, fun z => absurd w1 z⟩⟩
      rw [hR 16 (by decide)]
      refine pw_has hV.d (by omega) ?_
      by_cases c : (G 16).testBit b = true
      · rw [if_pos c]
        exact ⟨fun z => absurd z (by decide), fun _ => ⟨rfl, h⟩⟩
      · rw [if_neg c]
        exact ⟨fun _ => ⟨rfl, h⟩, fun z => absurd rfl z⟩
    · rw [hC.2.2.2.1]
      refine reas (G 17) _ h17 (fun Q hQ => ?_)
      refine key Q ⟨fun z => absurd z w0, fun _ => ⟨fun z => absurd z w1, fun _ => ⟨fun _ => ?_, fun z => absurd w2 z⟩⟩⟩
      rw [hR 17 (by decide)]
      exact hQ
    · unfold w_X4_degrees
      refine pw_settingAt (by decide) ?_
      rw [nI_add]
      refine pw_lengthAt (by omega) ?_
      rw [hC.2.2.2.2.2.2 3 (by decide), hC.2.2.2.2.2.1 (b + 1) (by omega)]
      have hl := hV.2.1 (b + 1) (by omega)
      have hs := hV.2.2.2.2.2.2.2.2
      have ey : nI (G (18 + 3)) - (nI (G (1 + (b + 1))) - nI 1) = iI ((G 21 : Int) - (G (1 + (b + 1)) : Int) + 1) := by
        rw [← iI_nat, ← iI_nat (G (1 + (b + 1))), show nI 1 = iI 1 by decide, iI_sub, iI_sub]
        congr 1
        show (G 21 : Int) - _ = _
        omega
      rw [ey]
      rintro _ rfl _ rfl
      refine key _ ⟨fun z => absurd z w0, fun _ => ⟨fun z => absurd z w1, fun _ => ⟨fun z => absurd z w2, fun _ => ⟨fun _ => ?_, fun z => absurd w3 z⟩⟩⟩⟩
      unfold w_X7_degrees
      rw [nI_add, nI_add, nI_clamp (by omega), show 1 + b + 1 = 1 + (b + 1) by omega, hR _ (by omega), hR _ (by omega)]
      have ez : nI (G 21) - nI (G (1 + (b + 1))) + nI 1 = iI ((G 21 : Int) - (G (1 + (b + 1)) : Int) + 1) := by
        rw [← iI_nat, ← iI_nat (G (1 + (b + 1))), show nI 1 = iI 1 by decide, iI_sub, iI_add]
      rw [ez]
      refine ⟨vp_in_nI (by omega) (by decide), ?_⟩
      rintro _ rfl
      rw [show nI 0 = iI 0 by decide, show (0 : Int32) = iI 0 by decide, iI_le (by omega) (by omega)]
      refine ⟨fun z => ?_, fun z => ?_⟩
      · rw [if_neg (by rw [iI_lt (by omega) (by omega)]; omega)]
        exact ⟨rfl, h⟩
      · rw [if_pos (by rw [iI_lt (by omega) (by omega)]; omega)]
        exact ⟨rfl, h⟩
    · have fin : ∀ v, v ≤ 1 → v = 1 - G 17 → w_X2_reason 23 1 (nI b) (MC 1 2) (nI v) MC (fun v' M' => EQA MM (w_X7_ofBend (nI b) w) v' M') := by
        intro v hv hv2
        refine reas v (fun Q => w_X7_ofBend (nI b) w MM Q) hv (fun Q hQ => ?_)
        refine key Q ⟨fun z => absurd z w0, fun _ => ⟨fun z => absurd z w1, fun _ => ⟨fun z => absurd z w2, fun _ => ⟨fun z => absurd z w3, fun _ => ⟨fun _ => ?_, fun z => absurd w4 z⟩⟩⟩⟩⟩
        rw [hR 17 (by decide), pk_sub h17, ← hv2]
        exact hQ
      rw [hC.2.2.2.1]
      refine ⟨fun z => ?_, fun z => ?_⟩
      · have : G 17 = 1 := by
          rcases (show G 17 = 0 ∨ G 17 = 1 by omega) with q | q
          · rw [q] at z; exact absurd rfl z
          · exact q
        exact fin 0 (by decide) (by omega)
      · have : G 17 = 0 := (nI_z (by omega)).mp z
        exact fin 1 (by decide) (by omega)
    · exact key _ ⟨fun z => absurd z w0, fun _ => ⟨fun z => absurd z w1, fun _ => ⟨fun z => absurd z w2, fun _ => ⟨fun z => absurd z w3, fun _ => ⟨fun z => absurd z w4, fun _ => ⟨rfl, h⟩⟩⟩⟩⟩⟩
theorem pw_strikers7 {M : Mem} {b d v : Nat} {S : Nat → Nat} {Q : Int32 → Mem → Prop} (hS : CV S) (hC : RC (M 1) S) (hb : b < S 0) (hd : d < 128) (hv : v ≤ 1) (hQ : ∀ M', PFR M M' → Q (nI (stkS S b d v)) M') : w_X7_lay (nI b) (nI d) (nI v) M (fun M4 => w_X7_strike (nI 1) M4 (fun v6 M5 => w_X7_swing (nI b) M5 (fun M7 => w_X7_strike (nI 1) M7 (fun v9 M8 => Q (v6 ||| v9) M8)))) := by
  have h7 := hS.1.2
  refine pw_lay hS hC hb hd hv (fun M1 hL => ?_)
  obtain ⟨f1, T, P, hP, -⟩ := hL.pq
  have row : ∀ {A : Mem}, PFR M A → RC (A 1) S := fun {A} hA => by rw [hA.1 1 (by decide) (by decide) (by decide) (by decide)]; exact hC
  refine pw_strikeU (row f1) hS hP (bxF_bd hS hb) (bxF_v S b d v (S 0)) ?_
  refine pw_swing7 hP h7 (by omega) (fun M2 P2 f2 hP2 => ?_)
  have hP2 : PQ M2 (S 0) T P2 (bxS S b d v) := hP2
  refine pw_strikeU (row (f1.trans f2)) hS hP2 (bxS_bd hS hb) (bxS_v S b d v (S 0)) ?_
  rw [nI_or, bsB_or]
  exact hQ M2 (f1.trans f2)
theorem pr_strikers {MC MM : Mem} {a : Int32} (h : REL MC MM) : w_X6_strikers a MC (EQA MM (w_X7_strikers a)) := by
  obtain ⟨⟨G, hV, hC, hR⟩, -⟩ := id h
  have h7 := hV.1.2
  have h17 : G 17 ≤ 1 := hV.2.2.2.2.1
  unfold w_X6_strikers
  refine pw_hasBend hC.1 h7 (fun hno => ⟨fun c => absurd rfl c, fun _ => ?_⟩) (fun b hb e => ⟨fun _ => ?_, fun c => absurd c (by decide)⟩)
  · show w_X7_strikers a MM _
    unfold w_X7_strikers
    exact pw_isBend (hR 0 (by decide)) hV.1.1 h7 (fun _ => ⟨fun c => absurd rfl c, fun _ => ⟨rfl, h⟩⟩) (fun b hb e => absurd e (hno b hb))
  · subst e
    have hbc : b < cor G 0 := by rw [cor_0]; exact hb
    rw [hC.2.2.1, hC.2.2.2.1]
    refine pw_strikersC (by decide) hV.cv (hC.cc hV) hbc hV.d h17 (fun MC1 f1 => ?_)
    show w_X7_strikers (nI b) MM _
    unfold w_X7_strikers
    refine pw_isBend (hR 0 (by decide)) hV.1.1 h7 (fun hno => absurd rfl (hno b hb)) (fun _ _ _ => ⟨fun _ => ?_, fun c => absurd c (by decide)⟩)
    rw [hR 16 (by decide), hR 17 (by decide)]
    exact pw_strikers7 (Q := fun v' MM' => nI (stkS (cor G) b (G 16) (G 17)) = v' ∧ REL MC1 MM') hV.cv (hR.rc hV) hbc hV.d h17 (fun MM1 g => ⟨rfl, (h.geoC f1).geoM g⟩)
theorem lq_end {M : Mem} {T f i : Nat} {c : Int32} {P : PTF} {K : Int32 → Int32 → Mem → Prop} (hT : T ≤ 80) (hX : PTX M T P) (hfl : ∀ i, i < T → (P i).1 < 8) (hf : f < 8) (hi : i < T) (e : (P i).1 = f) (hl : ∀ j, i < j → j < T → (P j).1 ≠ f) (hK : ∀ x, K (nI i) x M) :
    ∀ (n k : Nat) (z : Int32), k ≤ T → T + 1 ≤ n + k → (i < k → z = nI i) → w_X7_end_45 n (nI f) c z (nI k) M K := by
  intro n
  induction n with
  | zero => intro k z h1 h2; omega
  | succ n ih =>
    intro k z h1 h2 hz
    unfold w_X7_end_45
    rw [hX.1]
    refine ⟨fun y => ?_, fun y => ?_⟩
    · rw [nI_leI (by omega) (by omega)] at y
      rw [hz (by omega)]
      exact hK _
    · rw [nI_leI (by omega) (by omega)] at y
      have hfk := hfl k (by omega)
      rw [nI_clamp (show k < 2 ^ 31 by omega), (hX.2 k (by omega)).1, nI_eq (by omega) (by omega)]
      refine ⟨vp_in_nI (by omega) (by decide), fun q => ?_, fun q => ?_⟩
      · rintro _ rfl
        rw [nI_add]
        refine ih (k + 1) z (by omega) (by omega) (fun q' => hz ?_)
        have : i ≠ k := fun w => q (by rw [← w]; exact e)
        omega
      · rintro _ rfl
        rw [nI_add]
        refine ih (k + 1) (nI k) (by omega) (by omega) (fun q' => ?_)
        have : i = k := by
          refine Classical.byContradiction fun w => ?_
          exact hl k (by omega) (by omega) q
        rw [this]
theorem pr_end {MC MM : Mem} {a c : Int32} {e : Nat} (he : e ≤ 1) (h : REL MC MM) : w_X6_end a c (nI e) MC (EQA MM (w_X7_end a c (nI e))) := by
  obtain ⟨⟨G, hV, hC, hR⟩, -⟩ := id h
  have h7 := hV.1.2
  have h17 : G 17 ≤ 1 := hV.2.2.2.2.1
  unfold w_X6_end
  refine pw_hasBend hC.1 h7 (fun hno => ⟨fun _ => ?_, fun c => absurd rfl c⟩) (fun b hb eb => ⟨fun c => absurd c (by decide), fun _ => ?_⟩)
  · show w_X7_end a c _ MM _
    unfold w_X7_end
    exact pw_isBend (hR 0 (by decide)) hV.1.1 h7 (fun _ => ⟨fun _ => ⟨rfl, h⟩, fun c => absurd rfl c⟩) (fun b hb e => absurd e (hno b hb))
  · subst eb
    have hbc : b < cor G 0 := by rw [cor_0]; exact hb
    refine pw_hasFlange hC.1 h7 (fun hno => ⟨fun z => absurd rfl z, fun _ => ?_⟩) (fun f hf ef => ⟨fun _ => ?_, fun z => absurd z (by decide)⟩)
    · show w_X7_end _ c _ MM _
      unfold w_X7_end
      refine pw_isBend (hR 0 (by decide)) hV.1.1 h7 (fun hno => absurd rfl (hno b hb)) (fun _ _ _ => ⟨fun z => absurd z (by decide), fun _ => ?_⟩)
      exact pw_isFlange (hR 0 (by decide)) h7 (fun _ => ⟨fun z => absurd rfl z, fun _ => ⟨rfl, h⟩⟩) (fun q hq e => absurd e (hno q hq))
    · subst ef
      refine pw_farEnd (by decide) hV.cv (hC.cc hV) hbc (by rw [cor_0]; exact hf) hV.d h17 he hC.2.2.1 hC.2.2.2.1 (fun MC1 f1 => ?_)
      show w_X7_end _ _ _ MM _
      unfold w_X7_end
      refine pw_isBend (hR 0 (by decide)) hV.1.1 h7 (fun hno => absurd rfl (hno b hb)) (fun _ _ _ => ⟨fun z => absurd z (by decide), fun _ => ?_⟩)
      refine pw_isFlange (hR 0 (by decide)) h7 (fun hno => absurd rfl (hno f hf)) (fun _ _ _ => ⟨fun _ => ?_, fun z => absurd z (by decide)⟩)
      rw [hR 16 (by decide), hR 17 (by decide)]
      refine pw_lay hV.cv (hR.rc hV) hbc hV.d h17 (fun M1 hL => ?_)
      obtain ⟨g1, T, P, hP, hE⟩ := hL.pq
      obtain ⟨i, i1, i2, i3⟩ := hE f (by show f ≤ cor G 0; rw [cor_0]; exact hf)
      have hX := hP.2.1.2 i i1
      rw [i2] at hX
      refine lq_end hP.1 hP.2.1 (hP.fl hV.cv.1.2) (by omega) i1 (by rw [i2]) i3 (fun x => ?_) FU 0 (nI 0) (Nat.zero_le _) (by have := hP.1; show _ ≤ 1000 + 0; omega) (fun z => by omega)
      have hT := hP.1
      rw [nI_clamp (by omega)]
      have hvi : vp_in (nI i) 80 := vp_in_nI (by omega) (by decide)
      refine ⟨fun z => ⟨hvi, ?_, (h.geoC f1).geoM g1⟩, fun z => ⟨hvi, ?_, (h.geoC f1).geoM g1⟩⟩
      · have e0 : e = 0 := (nI_z (by omega)).mp z
        rw [if_neg (by omega)]
        exact hX.2.1.symm
      · have e0 : e = 1 := by
          rcases (show e = 0 ∨ e = 1 by omega) with y | y
          · rw [y] at z; exact absurd rfl z
          · exact y
        rw [if_pos e0]
        exact hX.2.2.symm
