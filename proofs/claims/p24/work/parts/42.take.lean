/-! takeStrip, of a text without fault -/
theorem pc_takeStrip {M : Mem} {G : GN} {ko : Option GN} {t : Nat} {c : GN} {Q : Int32 → Mem → Prop} (h : ST M G ko t c) (ok : okT c t) (hQ : ∀ G' M', ST M' G' ko t c → Q (nI (t / 2)) M') : w_X6_takeStrip M Q := by
  obtain ⟨hV, hC, ⟨k, H, hH, hHV⟩, hK, ⟨t1, t2, hc5⟩, hP⟩ := id h
  unfold w_X6_takeStrip
  refine pw_fault5 t1 t2 hc5 (fun i hi no hb hl => absurd ok no) (fun _ => ⟨fun _ => ?_, fun z => absurd rfl z⟩)
  obtain ⟨hal, t3', todd⟩ := id ok
  have h15 : t ≤ 15 := by
    rcases Nat.lt_or_ge 15 t with q | q
    · have := (hal 15 q).1
      omega
    · exact q
  obtain ⟨n0, hn0⟩ : ∃ n0, t = 2 * n0 + 1 := ⟨t / 2, by omega⟩
  have hn7 : n0 ≤ 7 := by omega
  have hn1 : 1 ≤ n0 := by omega
  refine pw_record hC hV.2.2.2.2.1 hH (fun M1 hH1 f1 => ?_)
  have hC1 : CS M1 1 G := hC.kept (f1 _ (by decide)) (f1 _ (by decide)) (f1 _ (by decide))
  unfold w_X5_pairs
  rw [f1 21 (by decide), t2, pk_div (by omega) (by decide) (by decide), show t / 2 = n0 by omega]
  unfold w_X4_beginStrip
  rintro _ rfl _ rfl
  have ea : (if nI 7 < nI n0 then nI 7 else nI n0) = nI n0 := by rw [if_neg]; rw [nI_ltI (by decide) (by omega)]; omega
  have eb : (if nI 1 < nI n0 then nI n0 else nI 1) = nI n0 := by
    by_cases q : nI 1 < nI n0
    · rw [if_pos q]
    · rw [if_neg q]
      rw [nI_ltI (by decide) (by omega)] at q
      rw [show n0 = 1 by omega]
  rw [ea, eb]
  rintro M2 hM2 M3 hM3 M4 hM4 M5 hM5
  have k5 : ∀ a, a ≠ 1 → M5 a = M1 a := fun a ha => by rw [hM5, um_n ha, hM4, um_n ha, hM3, um_n ha, hM2, um_n ha]
  have e50 : M5 1 0 = nI n0 := by rw [hM5, um_s, upd_n (by decide), hM4, um_s, upd_n (by decide), hM3, um_s, upd_n (by decide), hM2, um_s, upd_s]
  have e51 : M5 1 1 = nI 0 := by rw [hM5, um_s, upd_n (by decide), hM4, um_s, upd_n (by decide), hM3, um_s, upd_s]
  have e52 : M5 1 2 = nI 0 := by rw [hM5, um_s, upd_n (by decide), hM4, um_s, upd_s]
  have e53 : M5 1 3 = nI 0 := by rw [hM5, um_s, upd_s]
  have e54 : M5 1 4 = nI (G 22) := by rw [hM5, um_s, upd_n (by decide), hM4, um_s, upd_n (by decide), hM3, um_s, upd_n (by decide), hM2, um_s, upd_n (by decide)]; exact hC1.2.2.2.2.1
  have hc5' : ∀ i, i < t → c i < 65536 ∧ M5 22 i = nI (c i) := fun i hi => by rw [k5 22 (by decide), f1 22 (by decide)]; exact hc5 i hi
  have e521 : M5 21 0 = nI t := by rw [k5 21 (by decide), f1 21 (by decide)]; exact t2
  clear hM2 hM3 hM4 hM5
  refine lq_tk46 (M0 := M5) (t := t) (n0 := n0) (c := c) hn7 hn0 e50 e521 hc5' hal (fun M6 g6 g62 => ?_) FU 0 M5 (Nat.zero_le _) (by show n0 + 2 ≤ 1000 + 0; omega) (fun _ _ => rfl) (fun f hf => by rw [if_neg (by omega)])
  refine lq_tk86 (M0 := M6) (t := t) (n0 := n0) (c := c) hn7 hn0 (by rw [g6 1 (by decide)]; exact e50) (by rw [g6 21 (by decide)]; exact e521) (fun i hi => by rw [g6 22 (by decide)]; exact hc5' i hi) (fun M7 g7 g71 g72 => ?_) FU 0 M6 (Nat.zero_le _) (by show n0 + 1 ≤ 1000 + 0; omega) (fun _ _ => rfl) (fun _ _ => rfl) ⟨0, by rw [g6 1 (by decide)]; exact e51, by decide, fun i hi => by simp⟩
  have k7 : ∀ a, a ≠ 1 → a ≠ 2 → M7 a = M1 a := fun a a1 a2 => by rw [g7 a a1, g6 a a2, k5 a a1]
  have s7 : ∀ s, s ≠ 1 → M7 1 s = M5 1 s := fun s hs => by rw [g71 s hs, g6 1 (by decide)]
  have hV7 : VG (tkG c n0 G) := by
    obtain ⟨v1, v2, v3, v4, v5, v6, v7, v8, v9⟩ := hV
    have e0 : tkG c n0 G 0 = n0 := rfl
    have ee : ∀ j, 18 ≤ j → tkG c n0 G j = G j := fun j hj => by
      unfold tkG
      rw [if_neg (by omega), if_neg (by omega), if_neg (by omega), if_neg (by omega)]
    have e16 : tkG c n0 G 16 = 0 := by
      unfold tkG
      rw [if_neg (by omega), if_neg (by omega), if_neg (by omega), if_pos (by omega)]
    have e17 : tkG c n0 G 17 = 0 := by
      unfold tkG
      rw [if_neg (by omega), if_neg (by omega), if_neg (by omega), if_pos (by omega)]
    unfold VG
    rw [e0, e16, e17, ee 18 (by decide), ee 19 (by decide), ee 20 (by decide), ee 21 (by decide)]
    refine ⟨⟨hn1, hn7⟩, fun f hf => ?_, fun b hb => ?_, Nat.pow_pos (by decide), by decide, v6, v7, v8, v9⟩
    · have ha := (hal (2 * f) (by omega)).2.1 (by omega)
      have e : tkG c n0 G (1 + f) = c (2 * f) - 48 := by
        unfold tkG
        rw [if_neg (by omega), if_pos (by omega), show 1 + f - 1 = f by omega]
      rw [e]; omega
    · have e : tkG c n0 G (9 + b) = if c (2 * b + 1) = 117 then 1 else 0 := by
        unfold tkG
        rw [if_neg (by omega), if_neg (by omega), if_pos (by omega), show 9 + b - 9 = b by omega]
      rw [e]; split <;> decide
  have hC7 : CS M7 1 (tkG c n0 G) := by
    obtain ⟨u, hu1, hu2, hu3⟩ := g72
    refine ⟨by rw [s7 0 (by decide)]; exact e50, ⟨u, hu1, hu2, fun b hb => ?_⟩, ?_, ?_, ?_, fun f hf => ?_, fun s hs => ?_⟩
    · rw [hu3 b hb]
      show _ = decide (b < n0 ∧ tkG c n0 G (9 + b) = 1)
      by_cases q : b < n0
      · have e : tkG c n0 G (9 + b) = if c (2 * b + 1) = 117 then 1 else 0 := by
          unfold tkG
          rw [if_neg (by omega), if_neg (by omega), if_pos (by omega), show 9 + b - 9 = b by omega]
        rw [e]
        by_cases q2 : c (2 * b + 1) = 117 <;> simp [q, q2]
      · simp [q]
    · rw [s7 2 (by decide), e52]
      unfold tkG
      rw [if_neg (by omega), if_neg (by omega), if_neg (by omega), if_pos (by omega)]
    · rw [s7 3 (by decide), e53]
      unfold tkG
      rw [if_neg (by omega), if_neg (by omega), if_neg (by omega), if_pos (by omega)]
    · rw [s7 4 (by decide), e54]
      unfold tkG
      rw [if_neg (by omega), if_neg (by omega), if_neg (by omega), if_neg (by omega)]
    · rw [show 1 + 1 = 2 from rfl, g7 2 (by decide), g62 f hf]
      by_cases q : f ≤ n0
      · rw [if_pos q, tkG_f q]
      · rw [if_neg q, tkG_fo q hf, k5 2 (by decide)]
        exact hC1.2.2.2.2.2.1 f hf
    · rw [show 1 + 2 = 3 from rfl, k7 3 (by decide) (by decide)]
      unfold tkG
      rw [if_neg (by omega), if_neg (by omega), if_neg (by omega), if_neg (by omega)]
      exact hC1.2.2.2.2.2.2 s hs
  rw [s7 0 (by decide), e50]
  have hn : t / 2 = n0 := by omega
  rw [hn] at hQ
  exact hQ _ _ (h.act hV7 hC7 (hH1.kept (fun a a1 a2 => k7 a (by omega) (by omega))) (push_ok hHV hH.1 hV) (fun a ha => by rw [k7 a (by omega) (by omega)]; exact f1 a (by omega)))
