/-! the class's state as numbers, and what each call that changes nothing answers -/
abbrev GN : Type := Nat → Nat
def HIC (M : Mem) : Prop := ∃ k H, HC M k H ∧ ∀ j, j < k → VG (H j)
def KPC (M : Mem) (ko : Option GN) : Prop := ∀ K, ko = some K → M 0 2 = nI 1 ∧ VG K ∧ CS M 4 K
def TXC (M : Mem) (t : Nat) (c : GN) : Prop := t ≤ 60 ∧ M 21 0 = nI t ∧ ∀ i, i < t → c i < 65536 ∧ M 22 i = nI (c i)
def ST (M : Mem) (G : GN) (ko : Option GN) (t : Nat) (c : GN) : Prop := VG G ∧ CS M 1 G ∧ HIC M ∧ KPC M ko ∧ TXC M t c ∧ PLN M
theorem ST.v {M : Mem} {G : GN} {ko : Option GN} {t : Nat} {c : GN} (h : ST M G ko t c) : VG G := h.1
theorem ST.c {M : Mem} {G : GN} {ko : Option GN} {t : Nat} {c : GN} (h : ST M G ko t c) : CS M 1 G := h.2.1
theorem ST.pln {M : Mem} {G : GN} {ko : Option GN} {t : Nat} {c : GN} (h : ST M G ko t c) : PLN M := h.2.2.2.2.2
theorem ST.work {M M' : Mem} {G : GN} {ko : Option GN} {t : Nat} {c : GN} (h : ST M G ko t c) (f : ∀ a, a ≤ 22 → M' a = M a) (hP : PLN M') : ST M' G ko t c := by
  obtain ⟨hV, hC, ⟨k, H, hH, hHV⟩, hK, hT, -⟩ := h
  refine ⟨hV, hC.kept (f _ (by decide)) (f _ (by decide)) (f _ (by decide)), ⟨k, H, hH.kept (fun a a1 a2 => f a (by omega)), hHV⟩, fun K hK' => ?_, ?_, hP⟩
  · obtain ⟨k1, k2, k3⟩ := hK K hK'
    exact ⟨by rw [f 0 (by decide)]; exact k1, k2, k3.kept (f _ (by decide)) (f _ (by decide)) (f _ (by decide))⟩
  · unfold TXC
    rw [f 21 (by decide), f 22 (by decide)]
    exact hT
theorem ST.geo {M M' : Mem} {G : GN} {ko : Option GN} {t : Nat} {c : GN} (h : ST M G ko t c) (f : ∀ a, a < 23 + 1 ∨ 23 + 7 < a → M' a = M a) : ST M' G ko t c :=
  h.work (fun a ha => f a (by omega)) (h.pln.kept (f _ (by decide)) (f _ (by decide)) (f _ (by decide)) (f _ (by decide)) (f _ (by decide)) (f _ (by decide)))
theorem ST.plan {M M' : Mem} {G : GN} {ko : Option GN} {t : Nat} {c : GN} (h : ST M G ko t c) (f : ∀ a, a ≤ 30 → M' a = M a) (p : PLNS M' (cor G)) : ST M' G ko t c :=
  h.work (fun a ha => f a (by omega)) (p.pln h.v.cv cor_cor)
theorem ST.act {M M' : Mem} {G G' : GN} {ko : Option GN} {t k' : Nat} {c : GN} {H' : Nat → GN} (h : ST M G ko t c) (hV : VG G') (hC : CS M' 1 G') (hH : HC M' k' H') (hHV : ∀ j, j < k' → VG (H' j)) (f : ∀ a, a = 0 ∨ (4 ≤ a ∧ a ≤ 6) ∨ 20 < a → M' a = M a) : ST M' G' ko t c := by
  obtain ⟨-, -, -, hK, hT, hP⟩ := h
  refine ⟨hV, hC, ⟨k', H', hH, hHV⟩, fun K hK' => ?_, ?_, hP.kept (f _ (by decide)) (f _ (by decide)) (f _ (by decide)) (f _ (by decide)) (f _ (by decide)) (f _ (by decide))⟩
  · obtain ⟨k1, k2, k3⟩ := hK K hK'
    exact ⟨by rw [f 0 (by decide)]; exact k1, k2, k3.kept (f _ (by decide)) (f _ (by decide)) (f _ (by decide))⟩
  · unfold TXC
    rw [f 21 (by decide), f 22 (by decide)]
    exact hT
theorem ST.d {M : Mem} {G : GN} {ko : Option GN} {t : Nat} {c : GN} (h : ST M G ko t c) : G 16 < 2 ^ cor G 0 := by rw [cor_0]; exact h.v.2.2.2.1
theorem ST.pc {M : Mem} {G : GN} {ko : Option GN} {t : Nat} {c : GN} (h : ST M G ko t c) : pcn (G 16) ≤ G 0 := (pcn_full (G 0) (by have := h.v.1.2; omega) _ h.v.2.2.2.1).1
theorem pw_hasBendY {M : Mem} {r n b : Nat} {Q : Int32 → Mem → Prop} (hn : M r 0 = nI n) (hn7 : n ≤ 7) (hb : b < n) (h : Q (nI 1) M) : w_X4_hasBend r (nI b) M Q := pw_hasBend hn hn7 (fun hno => absurd rfl (hno b hb)) (fun _ _ _ => h)
theorem pw_hasFlangeY {M : Mem} {r n b : Nat} {Q : Int32 → Mem → Prop} (hn : M r 0 = nI n) (hn7 : n ≤ 7) (hb : b ≤ n) (h : Q (nI 1) M) : w_X4_hasFlange r (nI b) M Q := pw_hasFlange hn hn7 (fun hno => absurd rfl (hno b hb)) (fun _ _ _ => h)
section TOLD
variable {M : Mem} {G : GN} {ko : Option GN} {t : Nat} {c : GN} {Q : Int32 → Mem → Prop}
theorem pc_count0 (h : ST M G ko t c) (hQ : Q (nI (G 0)) M) : w_X6_count (nI 0) M Q := by
  unfold w_X6_count
  refine ⟨fun _ => ?_, fun z => absurd rfl z⟩
  rw [h.c.1]
  exact hQ
theorem pc_count1 (h : ST M G ko t c) (hQ : Q (nI (pcn (G 16))) M) : w_X6_count (nI 1) M Q := by
  unfold w_X6_count
  iterate 1 (refine ⟨fun z => absurd z (by decide), fun _ => ?_⟩)
  exact ⟨fun _ => pw_doneBends h.c.2.2.1 h.v.d hQ, fun z => absurd rfl z⟩
theorem pc_count2 (h : ST M G ko t c) (hQ : Q (nI (G 17)) M) : w_X6_count (nI 2) M Q := by
  unfold w_X6_count
  iterate 2 (refine ⟨fun z => absurd z (by decide), fun _ => ?_⟩)
  refine ⟨fun _ => ?_, fun z => absurd rfl z⟩
  rw [h.c.2.2.2.1]
  exact pw_asNumber h.v.2.2.2.2.1 hQ
theorem pc_count3 (h : ST M G ko t c) (hQ : ∀ M', ST M' G ko t c → Q (nI (if 0 < wS (cor G) (G 16) then 1 else 0)) M') : w_X6_count (nI 3) M Q := by
  unfold w_X6_count
  iterate 3 (refine ⟨fun z => absurd z (by decide), fun _ => ?_⟩)
  refine ⟨fun _ => ?_, fun z => absurd rfl z⟩
  refine pw_hasOrder h.c h.v h.pln (fun M1 f1 p1 => ⟨fun hw => pw_asNumber (by decide) ?_, fun hw => pw_asNumber (by decide) ?_⟩)
  · have := hQ M1 (h.plan f1 p1)
    rw [if_pos hw] at this
    exact this
  · have := hQ M1 (h.plan f1 p1)
    rw [if_neg (by omega)] at this
    exact this
def nowB (G : GN) : Nat := bsB (fun b => decide (rsn (cor G) b (G 16) (G 17) = 0)) (G 0)
theorem pc_count4 (h : ST M G ko t c) (hQ : ∀ M', ST M' G ko t c → Q (nI (nowB G)) M') : w_X6_count (nI 4) M Q := by
  unfold w_X6_count
  iterate 4 (refine ⟨fun z => absurd z (by decide), fun _ => ?_⟩)
  refine ⟨fun _ => ?_, fun z => absurd rfl z⟩
  have h7 := h.v.1.2
  unfold w_X6_possibleNow
  refine lq_nowC h.v.cv (h.c.cc h.v) h.c.2.2.1 h.c.2.2.2.1 h.v.d h.v.2.2.2.2.1 (fun x M1 f1 => ?_) FU 0 M (Nat.zero_le _) (by rw [cor_0]; show _ ≤ 1000 + 0; omega) (fun _ _ => rfl)
  have := hQ M1 (h.geo f1)
  unfold nowB at this
  rw [cor_0]
  exact this
theorem pc_count5 (h : ST M G ko t c) (h1 : 0 < wS (cor G) (G 16) → ∀ M', ST M' G ko t c → Q (nI (tuF (cor G) (G 16) (G 17) (G 0 - pcn (G 16)))) M') (h0 : wS (cor G) (G 16) = 0 → ∀ M', ST M' G ko t c → Q (-1005) M') : w_X6_count (nI 5) M Q := by
  unfold w_X6_count
  iterate 5 (refine ⟨fun z => absurd z (by decide), fun _ => ?_⟩)
  refine ⟨fun _ => ?_, fun z => absurd rfl z⟩
  have h7 := h.v.1.2
  have hd := h.d
  refine pw_hasOrder h.c h.v h.pln (fun M1 f1 p1 => ⟨fun hw => ⟨fun z => absurd z (by decide), fun _ => ?_⟩, fun hw => ⟨fun _ => h0 hw M1 (h.plan f1 p1), fun z => absurd rfl z⟩⟩)
  rw [f1 1 (by decide), h.c.2.2.1, h.c.2.2.2.1]
  unfold w_X1_turnings
  refine pw_allBends p1.2.1.1 (by rw [cor_0]; exact h7) ?_
  refine lq_turnC p1 h.v.cv hd hw h.v.2.2.2.2.1 (fun x1 x2 x5 => ?_) FU 0 (by rw [cor_0]; have := h.pc; omega) (by rw [cor_0]; show _ ≤ 1000 + _; omega)
  have := h1 hw M1 (h.plan f1 p1)
  rw [cor_0]
  exact this
theorem pc_count6 (h : ST M G ko t c) (hQ : Q (nI (smB (fun f => G (1 + f)) (G 0 + 1))) M) : w_X6_count (nI 6) M Q := by
  unfold w_X6_count
  iterate 6 (refine ⟨fun z => absurd z (by decide), fun _ => ?_⟩)
  refine ⟨fun _ => ?_, fun z => absurd rfl z⟩
  have h7 := h.v.1.2
  unfold w_X4_wholeLength
  exact lq_lenC (L := fun f => G (1 + f)) h7 h.c.1 (fun f hf => h.c.2.2.2.2.2.1 f (by omega)) (fun x => hQ) FU 0 (Nat.zero_le _) (by show _ ≤ 1000 + 0; omega)
theorem pc_count11 (h : ST M G ko t c) (hQ : Q (nI (G 21)) M) : w_X6_count (nI 11) M Q := by
  unfold w_X6_count
  iterate 11 (refine ⟨fun z => absurd z (by decide), fun _ => ?_⟩)
  refine ⟨fun _ => ?_, fun z => absurd rfl z⟩
  rw [show nI 11 - nI 8 = nI 3 by decide]
  refine pw_settingAt (by decide) ?_
  rw [h.c.2.2.2.2.2.2 3 (by decide)]
  exact hQ
theorem pc_lengthOf {f : Nat} (h : ST M G ko t c) (hf : f ≤ G 0) (hQ : Q (nI (G (1 + f))) M) : w_X6_lengthOf (nI f) M Q := by
  unfold w_X6_lengthOf
  have h7 := h.v.1.2
  refine pw_hasFlangeY h.c.1 h7 hf ⟨fun _ => ?_, fun z => absurd z (by decide)⟩
  refine pw_lengthAt (by omega) ?_
  rw [h.c.2.2.2.2.2.1 f (by omega)]
  exact hQ
theorem pc_ofBendN (h : ST M G ko t c) {w : Int32} (hQ : Q (-1001) M) : w_X6_ofBend (nI (G 0)) w M Q := by
  unfold w_X6_ofBend
  have h7 := h.v.1.2
  refine pw_hasBend h.c.1 h7 (fun hno => ⟨fun z => absurd rfl z, fun _ => hQ⟩) (fun b hb e => ?_)
  have := nI_inj (by omega) (by omega) e
  omega
theorem pc_ofBend0 {b : Nat} (h : ST M G ko t c) (hb : b < G 0) (hQ : Q (nI (G (9 + b))) M) : w_X6_ofBend (nI b) (nI 0) M Q := by
  unfold w_X6_ofBend
  refine pw_hasBendY h.c.1 h.v.1.2 hb ⟨fun _ => ⟨fun _ => ?_, fun z => absurd rfl z⟩, fun z => absurd z (by decide)⟩
  have hub := h.v.2.2.1 b hb
  refine pw_isUp h.c h.v hb (pw_asNumber (by split <;> decide) ?_)
  rw [show (if G (9 + b) = 1 then 1 else 0) = G (9 + b) by split <;> omega]
  exact hQ
theorem pc_ofBend1 {b : Nat} (h : ST M G ko t c) (hb : b < G 0) (hQ : Q (nI (if (G 16).testBit b then 1 else 0)) M) : w_X6_ofBend (nI b) (nI 1) M Q := by
  unfold w_X6_ofBend
  have h7 := h.v.1.2
  refine pw_hasBendY h.c.1 h7 hb ⟨fun _ => ?_, fun z => absurd z (by decide)⟩
  iterate 1 (refine ⟨fun z => absurd z (by decide), fun _ => ?_⟩)
  exact ⟨fun _ => pw_isDone h.c.2.2.1 h.v.d (by omega) (pw_asNumber (by split <;> decide) hQ), fun z => absurd rfl z⟩
theorem pc_ofBend2 {b : Nat} (h : ST M G ko t c) (hb : b < G 0) (hQ : ∀ M', ST M' G ko t c → Q (nI (rsn (cor G) b (G 16) (G 17))) M') : w_X6_ofBend (nI b) (nI 2) M Q := by
  unfold w_X6_ofBend
  refine pw_hasBendY h.c.1 h.v.1.2 hb ⟨fun _ => ?_, fun z => absurd z (by decide)⟩
  iterate 2 (refine ⟨fun z => absurd z (by decide), fun _ => ?_⟩)
  refine ⟨fun _ => ?_, fun z => absurd rfl z⟩
  rw [h.c.2.2.1, h.c.2.2.2.1]
  exact pw_reason (by decide) h.v.cv (h.c.cc h.v) (by rw [cor_0]; exact hb) h.v.d h.v.2.2.2.2.1 (fun M' f => hQ M' (h.geo f))
theorem pc_ofBend3 {b : Nat} (h : ST M G ko t c) (hb : b < G 0) (hQ : Q (nI (90 + (G 21 + 1 - G (1 + (b + 1))))) M) : w_X6_ofBend (nI b) (nI 3) M Q := by
  unfold w_X6_ofBend
  have h7 := h.v.1.2
  refine pw_hasBendY h.c.1 h7 hb ⟨fun _ => ?_, fun z => absurd z (by decide)⟩
  iterate 3 (refine ⟨fun z => absurd z (by decide), fun _ => ?_⟩)
  refine ⟨fun _ => ?_, fun z => absurd rfl z⟩
  unfold w_X4_degrees
  refine pw_settingAt (by decide) ?_
  rw [nI_add]
  refine pw_lengthAt (by omega) ?_
  rw [h.c.2.2.2.2.2.2 3 (by decide), h.c.2.2.2.2.2.1 (b + 1) (by omega)]
  have hl := h.v.2.1 (b + 1) (by omega)
  have hs := h.v.2.2.2.2.2.2.2.2
  have ey : nI (G (18 + 3)) - (nI (G (1 + (b + 1))) - nI 1) = iI ((G 21 : Int) - (G (1 + (b + 1)) : Int) + 1) := by
    rw [← iI_nat, ← iI_nat (G (1 + (b + 1))), show nI 1 = iI 1 by decide, iI_sub, iI_sub]
    congr 1
    show (G 21 : Int) - _ = _
    omega
  rw [ey]
  rintro _ rfl _ rfl
  have e0 : nI 0 = iI 0 := by decide
  have : nI 90 + (if nI 0 < iI ((G 21 : Int) - (G (1 + (b + 1)) : Int) + 1) then iI ((G 21 : Int) - (G (1 + (b + 1)) : Int) + 1) else nI 0) = nI (90 + (G 21 + 1 - G (1 + (b + 1)))) := by
    rw [e0]
    by_cases z : (0 : Int) < (G 21 : Int) - (G (1 + (b + 1)) : Int) + 1
    · rw [if_pos ((iI_lt (by omega) (by omega)).mpr z), ← nI_add, ← iI_nat (G 21 + 1 - G (1 + (b + 1)))]
      congr 2
      omega
    · rw [if_neg (fun q => z ((iI_lt (by omega) (by omega)).mp q)), show G 21 + 1 - G (1 + (b + 1)) = 0 by omega]
      decide
  rw [this]
  exact hQ
theorem pc_ofBend4 {b : Nat} (h : ST M G ko t c) (hb : b < G 0) (hQ : ∀ M', ST M' G ko t c → Q (nI (rsn (cor G) b (G 16) (1 - G 17))) M') : w_X6_ofBend (nI b) (nI 4) M Q := by
  unfold w_X6_ofBend
  refine pw_hasBendY h.c.1 h.v.1.2 hb ⟨fun _ => ?_, fun z => absurd z (by decide)⟩
  iterate 4 (refine ⟨fun z => absurd z (by decide), fun _ => ?_⟩)
  refine ⟨fun _ => ?_, fun z => absurd rfl z⟩
  have h17 := h.v.2.2.2.2.1
  have fin : ∀ v, v = 1 - G 17 → w_X2_reason 23 1 (nI b) (M 1 2) (nI v) M (fun v16 M15 => Q v16 M15) := by
    rintro v rfl
    rw [h.c.2.2.1]
    exact pw_reason (by decide) h.v.cv (h.c.cc h.v) (by rw [cor_0]; exact hb) h.v.d (by omega) (fun M' f => hQ M' (h.geo f))
  rw [h.c.2.2.2.1]
  refine ⟨fun z => fin 0 ?_, fun z => fin 1 ?_⟩
  · have : G 17 ≠ 0 := fun e => z (by rw [e]; rfl)
    omega
  · rw [(nI_z (by omega)).mp z]
theorem pc_strikers {b : Nat} (h : ST M G ko t c) (hb : b < G 0) (hQ : ∀ M', ST M' G ko t c → Q (nI (stkS (cor G) b (G 16) (G 17))) M') : w_X6_strikers (nI b) M Q := by
  unfold w_X6_strikers
  refine pw_hasBendY h.c.1 h.v.1.2 hb ⟨fun _ => ?_, fun z => absurd z (by decide)⟩
  rw [h.c.2.2.1, h.c.2.2.2.1]
  exact pw_strikersC (by decide) h.v.cv (h.c.cc h.v) (by rw [cor_0]; exact hb) h.v.d h.v.2.2.2.2.1 (fun M' f => hQ M' (h.geo f))
theorem pc_end {b f e : Nat} (h : ST M G ko t c) (hb : b < G 0) (hf : f ≤ G 0) (he : e ≤ 1) (hQ : ∀ M', ST M' G ko t c → Q (iI (if e = 1 then (gE (cor G) b (G 16) (G 17) f).2 else (gE (cor G) b (G 16) (G 17) f).1)) M') : w_X6_end (nI b) (nI f) (nI e) M Q := by
  unfold w_X6_end
  refine pw_hasBendY h.c.1 h.v.1.2 hb ⟨fun z => absurd z (by decide), fun _ => ?_⟩
  refine pw_hasFlangeY h.c.1 h.v.1.2 hf ⟨fun _ => ?_, fun z => absurd z (by decide)⟩
  exact pw_farEnd (by decide) h.v.cv (h.c.cc h.v) (by rw [cor_0]; exact hb) (by rw [cor_0]; exact hf) h.v.d h.v.2.2.2.2.1 he h.c.2.2.1 h.c.2.2.2.1 (fun M' f => hQ M' (h.geo f))
theorem pc_orders (h : ST M G ko t c) (hQ : ∀ M', ST M' G ko t c → Q (nI (wS (cor G) (G 16))) M') : w_X6_orders M Q := by
  unfold w_X6_orders
  refine pw_prepare h.c h.v h.pln (fun M1 f1 p1 => ?_)
  rw [f1 1 (by decide), h.c.2.2.1]
  refine pw_waysFrom h.v.d ?_
  rw [(p1.2.2 _ h.d).1]
  exact hQ M1 (h.plan f1 p1)
theorem pc_order {p : Nat} (h : ST M G ko t c) (hp : p < 2 ^ 31) (h0 : wS (cor G) (G 16) = 0 → ∀ M', ST M' G ko t c → Q (-1004) M')
    (h1 : 0 < wS (cor G) (G 16) → p < G 0 - pcn (G 16) → ∀ M', ST M' G ko t c → Q (nI (fs (cor G) (sqF (cor G) (G 16) p))) M') (h2 : 0 < wS (cor G) (G 16) → G 0 - pcn (G 16) ≤ p → ∀ M', ST M' G ko t c → Q (-1005) M') : w_X6_order (nI p) M Q := by
  unfold w_X6_order
  have h7 := h.v.1.2
  have hd := h.d
  refine ⟨fun _ => ?_, fun z => absurd (Int32.not_lt.mp (nI_neg hp)) z⟩
  refine pw_hasOrder h.c h.v h.pln (fun M1 f1 p1 => ⟨fun hw => ⟨fun _ => ?_, fun z => absurd z (by decide)⟩, fun hw => ⟨fun z => absurd rfl z, fun _ => h0 hw M1 (h.plan f1 p1)⟩⟩)
  have hC1 : CS M1 1 G := h.c.kept (f1 _ (by decide)) (f1 _ (by decide)) (f1 _ (by decide))
  have hpc := h.pc
  refine pw_openBends hC1.1 hC1.2.2.1 h.v.d hpc ?_
  rw [nI_ltI (by omega) (by omega)]
  refine ⟨fun z => ?_, fun z => h2 hw (by omega) M1 (h.plan f1 p1)⟩
  rintro _ rfl
  rw [hC1.2.2.1]
  refine lq_ord44 p1 h.v.cv hd hw (by rw [cor_0]; omega) (fun x => ?_) FU 0 (Nat.zero_le _) (by show _ ≤ 1000 + 0; omega)
  obtain ⟨q1, q2, q3, q4⟩ := sq_ok h.v.cv hd hw p (by rw [cor_0]; omega)
  refine pw_firstStep p1 h.v.cv q1 (sq_nf h.v.cv hd hw (by rw [cor_0]; omega)) q3 ?_
  exact h1 hw z M1 (h.plan f1 p1)
theorem pc_isOpen {b : Nat} (h : ST M G ko t c) (hb : b < G 0) (h1 : (G 16).testBit b = true → Q (nI 0) M) (h0 : (G 16).testBit b = false → Q (nI 1) M) : w_X6_isOpen (nI b) M Q := by
  unfold w_X6_isOpen
  have h7 := h.v.1.2
  refine pw_hasBendY h.c.1 h7 hb ⟨fun z => absurd z (by decide), fun _ => ?_⟩
  refine pw_isDone h.c.2.2.1 h.v.d (by omega) ?_
  by_cases q : (G 16).testBit b = true
  · rw [if_pos q]
    exact ⟨fun _ => h1 q, fun z => absurd z (by decide)⟩
  · rw [if_neg q]
    exact ⟨fun z => absurd rfl z, fun _ => h0 (by simpa using q)⟩
/-- what mustWait answers of two bends that the strip has -/
def mwV (G : GN) (f s : Nat) : Int32 := if (G 16).testBit f = true ∨ (G 16).testBit s = true then -1001 else if f = s then -1002 else if wS (cor G) (G 16) = 0 then -1004 else if 0 < wC (cor G) (G 16) f s (G 16) then nI 0 else nI 1
theorem pc_mustWait {f s : Nat} (h : ST M G ko t c) (hf : f < G 0) (hs : s < G 0) (hQ : ∀ M', ST M' G ko t c → Q (mwV G f s) M') : w_X6_mustWait (nI f) (nI s) M Q := by
  unfold w_X6_mustWait
  have h7 := h.v.1.2
  have hd := h.d
  refine pc_isOpen h hf (fun q => ⟨fun _ => ?_, fun z => absurd rfl z⟩) (fun q => ⟨fun z => absurd z (by decide), fun _ => pc_isOpen h hs (fun q' => ⟨fun z => absurd rfl z, fun _ => ?_⟩) (fun q' => ⟨fun _ => ⟨fun ne => ?_, fun e => ?_⟩, fun z => absurd z (by decide)⟩)⟩)
  · have := hQ M h
    unfold mwV at this
    rw [if_pos (Or.inl q)] at this
    exact this
  · have := hQ M h
    unfold mwV at this
    rw [if_pos (Or.inr q')] at this
    exact this
  · have no : ¬ ((G 16).testBit f = true ∨ (G 16).testBit s = true) := by rw [q, q']; simp
    have nfs : f ≠ s := fun e => ne (by rw [e])
    have hQ' : ∀ M', ST M' G ko t c → Q (if wS (cor G) (G 16) = 0 then -1004 else if 0 < wC (cor G) (G 16) f s (G 16) then nI 0 else nI 1) M' := fun M' h' => by
      have := hQ M' h'
      unfold mwV at this
      rw [if_neg no, if_neg nfs] at this
      exact this
    refine pw_hasOrder h.c h.v h.pln (fun M1 f1 p1 => ⟨fun hw => ⟨fun _ => ?_, fun z => absurd z (by decide)⟩, fun hw => ⟨fun z => absurd rfl z, fun _ => ?_⟩⟩)
    · rw [f1 1 (by decide), h.c.2.2.1]
      have h1 := h.plan f1 p1
      have st2 : ∀ M2 : Mem, (∀ a, a ≠ 45 → M2 a = M1 a) → ST M2 G ko t c := fun M2 f2 => h1.work (fun a ha => f2 a (by omega)) (h1.pln.kept (f2 _ (by decide)) (f2 _ (by decide)) (f2 _ (by decide)) (f2 _ (by decide)) (f2 _ (by decide)) (f2 _ (by decide)))
      refine pw_canPrecede h.v.cv p1 (by rw [cor_0]; exact hf) (by rw [cor_0]; exact hs) nfs ⟨hd, Nat.and_self _, q, q'⟩ (fun w M2 f2 => ⟨fun _ => pw_asNumber (by decide) ?_, fun z => absurd z (by decide)⟩) (fun w M2 f2 => ⟨fun z => absurd rfl z, fun _ => pw_asNumber (by decide) ?_⟩)
      · have := hQ' M2 (st2 M2 f2)
        rw [if_neg (by omega), if_pos w] at this
        exact this
      · have := hQ' M2 (st2 M2 f2)
        rw [if_neg (by omega), if_neg w] at this
        exact this
    · have := hQ' M1 (h.plan f1 p1)
      rw [if_pos hw] at this
      exact this
  · have no : ¬ ((G 16).testBit f = true ∨ (G 16).testBit s = true) := by rw [q, q']; simp
    have := hQ M h
    unfold mwV at this
    rw [if_neg no, if_pos (nI_inj (by omega) (by omega) e)] at this
    exact this
end TOLD
