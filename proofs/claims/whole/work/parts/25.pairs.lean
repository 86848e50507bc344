theorem VG_done {G : Nat → Nat} (h : VG G) {d : Nat} (hd : d < 2 ^ G 0) : VG (upG G 16 d) := by
  obtain ⟨v1, v2, v3, v4, v5, v6, v7, v8, v9⟩ := h
  refine ⟨v1, fun f hf => ?_, fun b hb => ?_, ?_, v5, v6, v7, v8, v9⟩
  · rw [show upG G 16 d 0 = G 0 from rfl] at hf
    rw [upG_n (by omega)]; exact v2 f hf
  · rw [show upG G 16 d 0 = G 0 from rfl] at hb
    rw [upG_n (by omega)]; exact v3 b hb
  · rw [upG_s, show upG G 16 d 0 = G 0 from rfl]; exact hd
theorem VG_bdg {G : Nat → Nat} (h : VG G) (n : Nat) : VG (upG G 22 n) := by
  obtain ⟨v1, v2, v3, v4, v5, v6, v7, v8, v9⟩ := h
  refine ⟨v1, fun f hf => ?_, fun b hb => ?_, v4, v5, v6, v7, v8, v9⟩
  · rw [show upG G 22 n 0 = G 0 from rfl] at hf
    rw [upG_n (by omega)]; exact v2 f hf
  · rw [show upG G 22 n 0 = G 0 from rfl] at hb
    rw [upG_n (by omega)]; exact v3 b hb
theorem VG_over {G : Nat → Nat} (h : VG G) {v : Nat} (hv : v ≤ 1) : VG (upG G 17 v) := by
  obtain ⟨v1, v2, v3, v4, v5, v6, v7, v8, v9⟩ := h
  refine ⟨v1, fun f hf => ?_, fun b hb => ?_, v4, ?_, v6, v7, v8, v9⟩
  · rw [show upG G 17 v 0 = G 0 from rfl] at hf
    rw [upG_n (by omega)]; exact v2 f hf
  · rw [show upG G 17 v 0 = G 0 from rfl] at hb
    rw [upG_n (by omega)]; exact v3 b hb
  · rw [upG_s]; exact hv
theorem VG_len {G : Nat → Nat} (h : VG G) {f v : Nat} (hf : f ≤ G 0) (hv : 1 ≤ v ∧ v ≤ 9) : VG (upG G (1 + f) v) := by
  obtain ⟨v1, v2, v3, v4, v5, v6, v7, v8, v9⟩ := h
  have e0 : upG G (1 + f) v 0 = G 0 := upG_n (by omega)
  have ee : ∀ j, 9 ≤ j → upG G (1 + f) v j = G j := fun j hj => upG_n (by omega)
  unfold VG
  rw [e0, ee 16 (by decide), ee 17 (by decide), ee 18 (by decide), ee 19 (by decide), ee 20 (by decide), ee 21 (by decide)]
  refine ⟨v1, fun g hg => ?_, fun b hb => ?_, v4, v5, v6, v7, v8, v9⟩
  · by_cases e : g = f
    · subst e; rw [upG_s]; exact hv
    · rw [upG_n (by omega)]; exact v2 g hg
  · rw [ee _ (by omega)]; exact v3 b hb
theorem bit_lt : ∀ n, n < 8 → ∀ u, u < 2 ^ n → ∀ b, b < 7 → (if u.testBit b then u - 2 ^ b else u) < 2 ^ n := by decide +kernel
theorem bit_lt2 : ∀ n, n < 8 → ∀ u, u < 2 ^ n → ∀ b, b < n → u ||| 2 ^ b < 2 ^ n := by decide +kernel
theorem HM.kept {M M' : Mem} {k : Nat} {H : Nat → Nat → Nat} (h : HM M k H) (e0 : M' 0 2 = M 0 2) (e2 : M' 2 = M 2) : HM M' k H := by
  obtain ⟨m1, m2, m3⟩ := h
  exact ⟨m1, by rw [e0]; exact m2, fun j hj i hi => by rw [e2]; exact m3 j hj i hi⟩
theorem pr_flatten {MC MM : Mem} {a : Int32} (h : REL MC MM) : w_X6_flatten a MC (EQA MM (w_X7_flatten a)) := by
  obtain ⟨⟨G, hV, hC, hR⟩, ⟨k, H, hH, hM, hHV⟩, -⟩ := id h
  have h7 := hV.1.2
  unfold w_X6_flatten
  refine pw_hasBend hC.1 h7 (fun hno => ⟨fun c => absurd rfl c, fun _ => ?_⟩) (fun b hb e => ⟨fun _ => ?_, fun c => absurd c (by decide)⟩)
  · show w_X7_flatten a MM _
    unfold w_X7_flatten
    exact pw_isBend (hR 0 (by decide)) hV.1.1 h7 (fun _ => ⟨fun c => absurd rfl c, fun _ => ⟨rfl, h⟩⟩) (fun b hb e => absurd e (hno b hb))
  · subst e
    refine pw_isDone hC.2.2.1 hV.d (by omega) ?_
    have key : ∀ (Q : Int32 → Mem → Prop), (∀ z : Nat, z = (if (G 16).testBit b then 1 else 0) → ((¬ nI z = 0 → w_X7_know MM (fun M7 => ∀ M8 : Nat → Nat → Int32, M8 = um M7 1 (upd (M7 1) 16 ((M7 1 16) - ((nI 1) <<< (nI b &&& 31)))) → w_X7_many (M8 1 16) M8 (fun v10 M9 => Q v10 M9))) ∧ (nI z = 0 → Q (-1005) MM))) → w_X7_flatten (nI b) MM Q := by
      intro Q hQ
      unfold w_X7_flatten
      refine pw_isBend (hR 0 (by decide)) hV.1.1 h7 (fun hno => absurd rfl (hno b hb)) (fun _ _ _ => ⟨fun _ => ?_, fun c => absurd c (by decide)⟩)
      rw [hR 16 (by decide)]
      exact pw_has hV.d (by omega) (hQ _ rfl)
    by_cases hd : (G 16).testBit b = true
    · rw [if_pos hd]
      refine ⟨fun _ => ?_, fun c => absurd c (by decide)⟩
      refine pw_record hC hV.2.2.2.2.1 hH (fun M1 hH1 f1 => ?_)
      have hC1 : CS M1 1 G := hC.kept (f1 _ (by decide)) (f1 _ (by decide)) (f1 _ (by decide))
      rintro _ rfl
      rw [hC1.2.2.1, bit_clr _ hV.d b (by omega), if_pos hd]
      have hlt : G 16 - 2 ^ b < 2 ^ G 0 := by
        have := bit_lt (G 0) (by omega) (G 16) hV.2.2.2.1 b (by omega)
        rw [if_pos hd] at this
        exact this
      have hVd := VG_done hV hlt
      have hC2 := CS_done hC1 (G 16 - 2 ^ b)
      refine pw_doneBends hC2.2.2.1 hVd.d ?_
      refine key _ (fun z hz => ?_)
      rw [if_pos hd] at hz
      subst hz
      refine ⟨fun _ => ?_, fun c => absurd c (by decide)⟩
      refine pw_know hR hM (fun M2 hM2 g1 g2 => ?_)
      rintro _ rfl
      have hR2 := RG_set hR 16 (G 16 - 2 ^ b)
      rw [um_s, g1 1 (by decide) (by decide), hR 16 (by decide), bit_sub _ hV.d b (by omega) hd, upd_s]
      refine pw_many (by have := hVd.d; rw [upG_s] at this; exact this) ⟨by rw [upG_s], h.act hVd hC2 (by rw [um_s]; exact hR2) (hH1.kept (fun a a1 a2 => um_n (by omega))) (hM2.kept (by rw [um_n (by decide)]) (um_n (by decide))) (push_ok hHV hM.1 hV) (fun a ha => ?_) ?_ ?_ ?_⟩
      · rw [um_n (by omega)]; exact f1 a (by omega)
      · rw [um_n (by decide)]; exact g1 3 (by decide) (by decide)
      · rw [um_n (by decide)]; exact g1 4 (by decide) (by decide)
      · intro j hj; rw [um_n (by decide)]; exact g2 j hj
    · rw [if_neg hd]
      refine ⟨fun c => absurd rfl c, fun _ => ?_⟩
      refine key _ (fun z hz => ?_)
      rw [if_neg hd] at hz
      subst hz
      exact ⟨fun c => absurd rfl c, fun _ => ⟨rfl, h⟩⟩
theorem pw_puts {M : Mem} {i : Nat} {v : Int32} {Q : Int32 → Mem → Prop} (hi : i < 23) (h : Q (M 1 i) (um M 1 (upd (M 1) i v))) : w_X7_puts (nI i) v M Q := by
  unfold w_X7_puts
  rw [nI_clamp (by omega)]
  refine ⟨vp_in_nI hi (by decide), ?_⟩
  first
    | (rintro _ rfl; exact ⟨vp_in_nI hi (by decide), by rintro _ rfl; exact h⟩)
    | exact ⟨vp_in_nI hi (by decide), by rintro _ rfl; exact h⟩
theorem pr_setLength {MC MM : Mem} {a c : Int32} (h : REL MC MM) : w_X6_setLength a c MC (EQA MM (w_X7_setLength a c)) := by
  obtain ⟨⟨G, hV, hC, hR⟩, ⟨k, H, hH, hM, hHV⟩, -⟩ := id h
  have h7 := hV.1.2
  unfold w_X6_setLength
  refine pw_hasFlange hC.1 h7 (fun hno => ⟨fun c => absurd rfl c, fun _ => ?_⟩) (fun b hb e => ⟨fun _ => ?_, fun c => absurd c (by decide)⟩)
  · show w_X7_setLength a c MM _
    unfold w_X7_setLength
    exact pw_isFlange (hR 0 (by decide)) h7 (fun _ => ⟨fun c => absurd rfl c, fun _ => ⟨rfl, h⟩⟩) (fun b hb e => absurd e (hno b hb))
  · subst e
    have key : ∀ (Q : Int32 → Mem → Prop), w_X7_in c (nI 1) (nI 9) MM (fun v4 M5 => ((¬ v4 = 0 → (((M5 1 16) = 0 → (vp_in ((nI 1) + nI b) 23 ∧ ((¬ (M5 1 ((nI 1) + nI b).toNatClampNeg) = c → w_X7_know M5 (fun M11 => w_X7_puts ((nI 1) + nI b) c M11 (fun v13 M12 => Q v13 M12))) ∧ ((M5 1 ((nI 1) + nI b).toNatClampNeg) = c → Q (-1005) M5)))) ∧ (¬ (M5 1 16) = 0 → Q (-1004) M5))) ∧ (v4 = 0 → Q (-1002) M5))) → w_X7_setLength (nI b) c MM Q := by
      intro Q hQ
      unfold w_X7_setLength
      exact pw_isFlange (hR 0 (by decide)) h7 (fun hno => absurd rfl (hno b hb)) (fun _ _ _ => ⟨fun _ => hQ, fun c => absurd c (by decide)⟩)
    have bad : (c < nI 1 ∨ nI 9 < c) → EQA MM (w_X7_setLength (nI b) c) (-1002) MC := by
      intro hc
      refine key _ (pw_in (fun _ => ⟨fun c => absurd rfl c, fun _ => ⟨rfl, h⟩⟩) (fun c1 c2 => absurd hc (fun z => z.elim c1 c2)))
    refine ⟨fun c1 => bad (Or.inl c1), fun c1 => ⟨fun c2 => ?_, fun c2 => bad (Or.inr (Int32.not_le.mp c2))⟩⟩
    have c2' : ¬ nI 9 < c := Int32.not_lt.mpr c2
    obtain ⟨v, hv, ev⟩ : ∃ v : Nat, (1 ≤ v ∧ v ≤ 9) ∧ c = nI v := by
      rcases nI_cases c with q | ⟨j, hj, e⟩
      · exact absurd (Int32.lt_trans q (by decide : (0 : Int32) < nI 1)) c1
      · subst e
        rw [nI_ltI hj (by decide)] at c1
        rw [nI_ltI (by decide) hj] at c2'
        exact ⟨j, by omega, rfl⟩
    subst ev
    have good : ∀ (Q : Int32 → Mem → Prop), ((((MM 1 16) = 0 → (vp_in ((nI 1) + nI b) 23 ∧ ((¬ (MM 1 ((nI 1) + nI b).toNatClampNeg) = nI v → w_X7_know MM (fun M11 => w_X7_puts ((nI 1) + nI b) (nI v) M11 (fun v13 M12 => Q v13 M12))) ∧ ((MM 1 ((nI 1) + nI b).toNatClampNeg) = nI v → Q (-1005) MM)))) ∧ (¬ (MM 1 16) = 0 → Q (-1004) MM))) → w_X7_setLength (nI b) (nI v) MM Q :=
      fun Q hQ => key Q (pw_in (fun z => absurd z (fun z => z.elim c1 c2')) (fun _ _ => ⟨fun _ => hQ, fun c => absurd c (by decide)⟩))
    rw [hC.2.2.1]
    refine ⟨fun d0 => ?_, fun d0 => ?_⟩
    · refine pw_lengthAt (by omega) ?_
      have eL : MC (1 + 1) b = nI (G (1 + b)) := hC.2.2.2.2.2.1 b (by omega)
      rw [eL]
      have hb9 := hV.2.1 b hb
      refine ⟨fun ne => ?_, fun eq => ?_⟩
      · refine pw_record hC hV.2.2.2.2.1 hH (fun M1 hH1 f1 => ?_)
        have hC1 : CS M1 1 G := hC.kept (f1 _ (by decide)) (f1 _ (by decide)) (f1 _ (by decide))
        unfold w_X4_putLength
        refine ⟨fun z => absurd z (nI_neg (by omega)), fun _ => ⟨fun z => ?_, fun _ => ⟨vp_in_nI (by omega) (by decide), ?_⟩⟩⟩
        · rw [nI_leI (by decide) (by omega)] at z; omega
        rintro _ rfl
        rw [nI_clamp (by omega)]
        refine good _ ⟨fun _ => ?_, fun z => absurd (by rw [hR 16 (by decide)]; exact d0) z⟩
        rw [nI_add, nI_clamp (by omega), hR _ (by omega)]
        refine ⟨vp_in_nI (by omega) (by decide), fun _ => ?_, fun z => absurd z ne⟩
        refine pw_know hR hM (fun M2 hM2 g1 g2 => ?_)
        refine pw_puts (by omega) ?_
        rw [g1 1 (by decide) (by decide), hR _ (by omega)]
        refine ⟨rfl, h.act (VG_len hV hb hv) (CS_len hC1 b v (by omega)) (by rw [um_s]; exact RG_set hR _ v) (hH1.kept (fun a a1 a2 => um_n (by omega))) (hM2.kept (by rw [um_n (by decide)]) (um_n (by decide))) (push_ok hHV hM.1 hV) (fun a ha => ?_) ?_ ?_ ?_⟩
        · rw [um_n (by omega)]; exact f1 a (by omega)
        · rw [um_n (by decide)]; exact g1 3 (by decide) (by decide)
        · rw [um_n (by decide)]; exact g1 4 (by decide) (by decide)
        · intro j hj; rw [um_n (by decide)]; exact g2 j hj
      · refine good _ ⟨fun _ => ?_, fun z => absurd (by rw [hR 16 (by decide)]; exact d0) z⟩
        rw [nI_add, nI_clamp (by omega), hR _ (by omega)]
        exact ⟨vp_in_nI (by omega) (by decide), fun z => absurd eq z, fun _ => ⟨rfl, h⟩⟩
    · refine good _ ⟨fun z => absurd (by rw [hR 16 (by decide)] at z; exact z) d0, fun _ => ⟨rfl, h⟩⟩
