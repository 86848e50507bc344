theorem bit_or_t : ∀ u, u < 128 → ∀ b, b < 7 → ∀ j, j < 7 → (u ||| 2 ^ b).testBit j = (decide (j = b) || u.testBit j) := by decide +kernel
theorem bit_cl_t : ∀ u, u < 128 → ∀ b, b < 7 → ∀ j, j < 7 → (if u.testBit b then u - 2 ^ b else u).testBit j = (!decide (j = b) && u.testBit j) := by decide +kernel
theorem bit_cl_lt : ∀ u, u < 128 → ∀ b, b < 7 → (if u.testBit b then u - 2 ^ b else u) < 128 := by decide +kernel
theorem pck_sum {u n : Nat} {f : Nat → Nat} (hn : n ≤ 7) (h1 : ∀ j, j < 7 → u.testBit j = decide (j < n ∧ f j = 1)) (h2 : ∀ j, j < n → f j ≤ 1) : pck u 7 = smB f n := by
  have a1 : ∀ j, j ≤ n → pck u j = smB f j := by
    intro j
    induction j with
    | zero => intro _; rfl
    | succ j ih =>
      intro hj
      show pck u j + _ = smB f j + f j
      rw [ih (by omega), h1 j (by omega)]
      have := h2 j (by omega)
      by_cases c : f j = 1
      · rw [if_pos (by simp [c]; omega), c]
      · rw [if_neg (by simp [c]), show f j = 0 by omega]
  have a2 : ∀ i, n + i ≤ 7 → pck u (n + i) = pck u n := by
    intro i
    induction i with
    | zero => intro _; rfl
    | succ i ih =>
      intro hi
      show pck u (n + i) + (if u.testBit (n + i) then 1 else 0) = _
      rw [ih (by omega), h1 (n + i) (by omega), if_neg (by simp only [decide_eq_true_eq]; omega)]
      rfl
  have := a2 (7 - n) (by omega)
  rw [show n + (7 - n) = 7 by omega] at this
  rw [this, a1 n (Nat.le_refl n)]
theorem smB_le {f : Nat → Nat} {c : Nat} : ∀ n, (∀ j, j < n → f j ≤ c) → smB f n ≤ n * c := by
  intro n
  induction n with
  | zero => intro _; exact Nat.zero_le _
  | succ n ih =>
    intro h
    show smB f n + f n ≤ (n + 1) * c
    have := ih (fun j hj => h j (by omega))
    have := h n (by omega)
    rw [Nat.succ_mul]
    omega
theorem smB_congr {f g : Nat → Nat} : ∀ n, (∀ j, j < n → f j = g j) → smB f n = smB g n := by
  intro n
  induction n with
  | zero => intro _; rfl
  | succ n ih =>
    intro h
    show smB f n + f n = smB g n + g n
    rw [ih (fun j hj => h j (by omega)), h n (by omega)]
theorem lq_setUp79 {M : Mem} {n0 : Nat} {f : Nat → Nat} {K : Int32 → Int32 → Mem → Prop} (hn : n0 ≤ 7) (h0 : M 1 0 = nI n0) (hf : ∀ j, j < n0 → M 1 (9 + j) = nI (f j)) (h : K (nI (smB f n0)) (nI n0) M) :
    ∀ (n j : Nat), j ≤ n0 → 9 ≤ n + j → w_X7_setUp_79 n (nI (smB f j)) (nI j) M K := by
  intro n
  induction n with
  | zero => intro j h1 h2; omega
  | succ n ih =>
    intro j h1 h2
    unfold w_X7_setUp_79
    rw [h0]
    refine ⟨fun c => ?_, fun c => ?_⟩
    · rw [nI_leI (by omega) (by omega)] at c
      have e : j = n0 := by omega
      subst e
      exact h
    · rw [nI_leI (by omega) (by omega)] at c
      rw [nI_add, nI_clamp (by omega), hf j (by omega)]
      refine ⟨vp_in_nI (by omega) (by decide), ?_⟩
      rintro _ rfl _ rfl
      rw [nI_add, nI_add]
      exact ih (j + 1) (by omega) (by omega)
theorem CS_up {M : Mem} {G : Nat → Nat} (h : CS M 1 G) {b e u' : Nat} (hb : b < G 0) (hb7 : b < 7) (he : e ≤ 1) (hu' : u' < 128) (hu : ∀ u, M 1 1 = nI u → u < 128 → ∀ j, j < 7 → u'.testBit j = if j = b then decide (e = 1) else u.testBit j) : CS (um M 1 (upd (M 1) 1 (nI u'))) 1 (upG G (9 + b) e) := by
  obtain ⟨h0, ⟨u, hu1, hu2, hu3⟩, h2, h3, h4, h5, h6⟩ := h
  refine ⟨?_, ⟨u', ?_, hu', fun j hj => ?_⟩, ?_, ?_, ?_, fun f hf => ?_, fun k hk => ?_⟩
  · rw [um_s, upd_n (by decide), upG_n (by omega)]; exact h0
  · rw [um_s, upd_s]
  · rw [upG_n (show (0 : Nat) ≠ 9 + b by omega), hu u hu1 hu2 j hj]
    by_cases c : j = b
    · subst c
      rw [if_pos rfl, upG_s]
      simp [hb]
    · rw [if_neg c, upG_n (by omega)]
      exact hu3 j hj
  · rw [um_s, upd_n (by decide), upG_n (by omega)]; exact h2
  · rw [um_s, upd_n (by decide), upG_n (by omega)]; exact h3
  · rw [um_s, upd_n (by decide), upG_n (by omega)]; exact h4
  · rw [um_n (by decide), upG_n (by omega)]; exact h5 f hf
  · rw [um_n (by decide), upG_n (by omega)]; exact h6 k hk
theorem VG_up {G : Nat → Nat} (h : VG G) {b e : Nat} (hb : b < 7) (he : e ≤ 1) : VG (upG G (9 + b) e) := by
  obtain ⟨v1, v2, v3, v4, v5, v6, v7, v8, v9⟩ := h
  have e0 : upG G (9 + b) e 0 = G 0 := upG_n (by omega)
  have ee : ∀ j, 16 ≤ j → upG G (9 + b) e j = G j := fun j hj => upG_n (by omega)
  unfold VG
  rw [e0, ee 16 (by decide), ee 17 (by decide), ee 18 (by decide), ee 19 (by decide), ee 20 (by decide), ee 21 (by decide)]
  refine ⟨v1, fun g hg => ?_, fun j hj => ?_, v4, v5, v6, v7, v8, v9⟩
  · rw [upG_n (by omega)]; exact v2 g hg
  · by_cases c : j = b
    · subst c; rw [upG_s]; exact he
    · rw [upG_n (by omega)]; exact v3 j hj
theorem pm_setUp {MM : Mem} {G : Nat → Nat} {k b e : Nat} {H : Nat → Nat → Nat} {Q : Int32 → Mem → Prop} (hV : VG G) (hR : RG (MM 1) G) (hM : HM MM k H) (hb : b < G 0) (he : e ≤ 1)
    (q1 : G 16 = 0 → G (9 + b) ≠ e → ∀ MM', RG (MM' 1) (upG G (9 + b) e) → HM MM' (pK k) (pH k H G) → (∀ a, a ≠ 0 → a ≠ 1 → a ≠ 2 → MM' a = MM a) → (∀ j, j ≠ 2 → MM' 0 j = MM 0 j) → Q (nI (smB (fun j => upG G (9 + b) e (9 + j)) (G 0))) MM')
    (q2 : G 16 = 0 → G (9 + b) = e → Q (-1005) MM) (q3 : G 16 ≠ 0 → Q (-1004) MM) : w_X7_setUp (nI b) (nI e) MM Q := by
  have h7 := hV.1.2
  have g1 : G (9 + b) ≤ 1 := hV.2.2.1 b hb
  have h16 := hV.d
  have tail : G 16 = 0 → G (9 + b) ≠ e → ∀ M2, HM M2 (pK k) (pH k H G) → (∀ a, a ≠ 0 → a ≠ 2 → M2 a = MM a) → (∀ j, j ≠ 2 → M2 0 j = MM 0 j) → w_X7_setUp_79 FU (nI 0) (nI 0) (um M2 1 (upd (M2 1) (9 + b) (nI e))) (fun y13 y14 M15 => Q y13 M15) := by
    intro z0 ne M2 hM2 f1 f2
    have hR2 : RG (um M2 1 (upd (M2 1) (9 + b) (nI e)) 1) (upG G (9 + b) e) := by
      rw [um_s, f1 1 (by decide) (by decide)]; exact RG_set hR _ e
    refine lq_setUp79 (n0 := G 0) (f := fun j => upG G (9 + b) e (9 + j)) h7 ?_ (fun j hj => hR2 _ (by omega)) ?_ FU 0 (Nat.zero_le _) (by decide)
    · rw [hR2 0 (by decide), upG_n (by omega)]
    · exact q1 z0 ne _ hR2 (hM2.kept (by rw [um_n (by decide)]) (um_n (by decide))) (fun a a0 a1 a2 => by rw [um_n a1]; exact f1 a a0 a2) (fun j hj => by rw [um_n (by decide)]; exact f2 j hj)
  unfold w_X7_setUp
  refine pw_isBend (hR 0 (by decide)) hV.1.1 h7 (fun hno => absurd rfl (hno b hb)) (fun _ _ _ => ⟨fun _ => ?_, fun c => absurd c (by decide)⟩)
  rw [hR 16 (by decide), nI_add, nI_clamp (by omega), hR (9 + b) (by omega)]
  refine ⟨fun z => ⟨vp_in_nI (by omega) (by decide), fun c1 => ⟨fun c2 => ?_, fun c2 => ?_⟩, fun c1 => ⟨fun c2 => ?_, fun c2 => ?_⟩⟩, fun z => q3 (fun y => z (by rw [y]; rfl))⟩
  · have z0 : G 16 = 0 := (nI_z (by omega)).mp z
    have gg : G (9 + b) ≠ 1 := fun y => c1 (by rw [y])
    have ee : e ≠ 0 := fun y => c2 (by rw [y])
    have e1 : e = 1 := by omega
    subst e1
    refine pw_know hR hM (fun M2 hM2 f1 f2 => ⟨fun c => absurd c (by decide), fun _ => ⟨vp_in_nI (by omega) (by decide), ?_⟩⟩)
    rintro _ rfl
    exact tail z0 gg M2 hM2 f1 f2
  · have z0 : G 16 = 0 := (nI_z (by omega)).mp z
    have gg : G (9 + b) ≠ 1 := fun y => c1 (by rw [y])
    exact q2 z0 (by have := nI_inj (by omega) (by omega) c2; omega)
  · have z0 : G 16 = 0 := (nI_z (by omega)).mp z
    have gg : G (9 + b) = 1 := nI_inj (by omega) (by omega) c1
    have ee : e ≠ 1 := fun y => c2 (by rw [y])
    have e1 : e = 0 := by omega
    subst e1
    refine pw_know hR hM (fun M2 hM2 f1 f2 => ⟨fun _ => ⟨vp_in_nI (by omega) (by decide), ?_⟩, fun c => absurd rfl c⟩)
    rintro _ rfl
    exact tail z0 (by omega) M2 hM2 f1 f2
  · have z0 : G 16 = 0 := (nI_z (by omega)).mp z
    have gg : G (9 + b) = 1 := nI_inj (by omega) (by omega) c1
    exact q2 z0 (by have := nI_inj (by omega) (by omega) c2; omega)
theorem pr_setUp {MC MM : Mem} {a : Int32} {e : Nat} (he : e ≤ 1) (h : REL MC MM) : w_X6_setUp a (nI e) MC (EQA MM (w_X7_setUp a (nI e))) := by
  obtain ⟨⟨G, hV, hC, hR⟩, ⟨k, H, hH, hM, hHV⟩, -⟩ := id h
  have h7 := hV.1.2
  unfold w_X6_setUp
  refine pw_hasBend hC.1 h7 (fun hno => ⟨fun c => absurd rfl c, fun _ => ?_⟩) (fun b hb ea => ⟨fun _ => ?_, fun c => absurd c (by decide)⟩)
  · show w_X7_setUp a _ MM _
    unfold w_X7_setUp
    exact pw_isBend (hR 0 (by decide)) hV.1.1 h7 (fun _ => ⟨fun c => absurd rfl c, fun _ => ⟨rfl, h⟩⟩) (fun b hb e => absurd e (hno b hb))
  · subst ea
    have g1 : G (9 + b) ≤ 1 := hV.2.2.1 b hb
    have h16 := hV.d
    rw [hC.2.2.1]
    refine ⟨fun z => ?_, fun z => ?_⟩
    · have z0 : G 16 = 0 := (nI_z (by omega)).mp z
      refine pw_isUp hC hV hb ?_
      rw [show (if G (9 + b) = 1 then 1 else 0) = G (9 + b) by split <;> omega]
      refine ⟨fun c => ?_, fun c => ?_⟩
      · have ne : G (9 + b) ≠ e := fun y => c (by rw [y])
        refine pw_record hC hV.2.2.2.2.1 hH (fun M1 hH1 f1 => ?_)
        have hC1 : CS M1 1 G := hC.kept (f1 _ (by decide)) (f1 _ (by decide)) (f1 _ (by decide))
        obtain ⟨u, hu, hu2, hu3⟩ := hC1.2.1
        have fin : ∀ u', u' < 128 → (∀ j, j < 7 → u'.testBit j = if j = b then decide (e = 1) else u.testBit j) → w_J6_bitCount_0f7a4 (um M1 1 (upd (M1 1) 1 (nI u')) 1 1) (um M1 1 (upd (M1 1) 1 (nI u'))) (fun v11 M10 => EQA MM (w_X7_setUp (nI b) (nI e)) v11 M10) := by
          intro u' hu' hbits
          have hC2 := CS_up hC1 (u' := u') hb (by omega) he hu' (fun w hw hw2 j hj => by
            rw [hu] at hw
            have := nI_inj (by omega) (by omega) hw
            subst this
            exact hbits j hj)
          have hV2 := VG_up hV (b := b) (by omega) he
          rw [um_s, upd_s]
          refine pw_bc hu' ?_
          have es : pcn u' = smB (fun j => upG G (9 + b) e (9 + j)) (G 0) := by
            rw [← pck_7 u' hu']
            refine pck_sum h7 (fun j hj => ?_) (fun j hj => hV2.2.2.1 j (by rw [upG_n (by omega)]; exact hj))
            obtain ⟨w, hw, hw2, hw3⟩ := hC2.2.1
            rw [um_s, upd_s] at hw
            have := nI_inj (by omega) (by omega) hw
            subst this
            have q := hw3 j hj
            rw [upG_n (show (0 : Nat) ≠ 9 + b by omega)] at q
            exact q
          rw [es]
          refine pm_setUp hV hR hM hb he (fun _ _ MM' r1 r2 r3 r4 => ⟨rfl, ?_⟩) (fun _ y => absurd y ne) (fun y => absurd z0 y)
          exact h.act hV2 hC2 r1 (hH1.kept (fun a a1 a2 => um_n (by omega))) r2 (push_ok hHV hM.1 hV) (fun a ha => by rw [um_n (by omega)]; exact f1 a (by omega)) (r3 3 (by decide) (by decide) (by decide)) (r3 4 (by decide) (by decide) (by decide)) r4
        unfold w_X4_putUp
        rw [hu]
        refine ⟨fun c0 => ?_, fun c0 => ?_⟩
        · have e0 : e = 0 := (nI_z (by omega)).mp c0
          rintro _ rfl
          rw [bit_clr u hu2 b (by omega)]
          refine fin _ (bit_cl_lt u hu2 b (by omega)) (fun j hj => ?_)
          rw [bit_cl_t u hu2 b (by omega) j hj]
          by_cases cj : j = b
          · simp [cj, e0]
          · simp [cj]
        · have e1 : e = 1 := by
            rcases (show e = 0 ∨ e = 1 by omega) with y | y
            · rw [y] at c0; exact absurd rfl c0
            · exact y
          rintro _ rfl
          rw [bit_set u hu2 b (by omega)]
          refine fin _ (bit_or_lt u hu2 b (by omega)) (fun j hj => ?_)
          rw [bit_or_t u hu2 b (by omega) j hj]
          by_cases cj : j = b
          · simp [cj, e1]
          · simp [cj]
      · have eq : G (9 + b) = e := nI_inj (by omega) (by omega) c
        exact pm_setUp hV hR hM hb he (fun _ y => absurd eq y) (fun _ _ => ⟨rfl, h⟩) (fun y => absurd z0 y)
    · have z0 : G 16 ≠ 0 := fun y => z (by rw [y]; rfl)
      exact pm_setUp hV hR hM hb he (fun y => absurd y z0) (fun y => absurd y z0) (fun _ => ⟨rfl, h⟩)
theorem VG_set {G : Nat → Nat} (h : VG G) {k v : Nat} (hk : k < 4) (hv : (k = 0 → 1 ≤ v ∧ v ≤ 12) ∧ (k = 1 → v ≤ 3) ∧ (k = 2 → v ≤ 9) ∧ (k = 3 → v ≤ 9)) : VG (upG G (18 + k) v) := by
  obtain ⟨v1, v2, v3, v4, v5, v6, v7, v8, v9⟩ := h
  have ee : ∀ j, j < 18 → upG G (18 + k) v j = G j := fun j hj => upG_n (by omega)
  unfold VG
  rw [ee 0 (by decide), ee 16 (by decide), ee 17 (by decide)]
  refine ⟨v1, fun g hg => ?_, fun j hj => ?_, v4, v5, ?_, ?_, ?_, ?_⟩
  · rw [ee _ (by omega)]; exact v2 g hg
  · rw [ee _ (by omega)]; exact v3 j hj
  · by_cases c : k = 0
    · subst c; rw [show (18 : Nat) = 18 + 0 from rfl, upG_s]; exact hv.1 rfl
    · rw [upG_n (by omega)]; exact v6
  · by_cases c : k = 1
    · subst c; rw [show (19 : Nat) = 18 + 1 from rfl, upG_s]; exact hv.2.1 rfl
    · rw [upG_n (by omega)]; exact v7
  · by_cases c : k = 2
    · subst c; rw [show (20 : Nat) = 18 + 2 from rfl, upG_s]; exact hv.2.2.1 rfl
    · rw [upG_n (by omega)]; exact v8
  · by_cases c : k = 3
    · subst c; rw [show (21 : Nat) = 18 + 3 from rfl, upG_s]; exact hv.2.2.2 rfl
    · rw [upG_n (by omega)]; exact v9
def loS (k : Nat) : Nat := if k = 0 then 1 else 0
def hiS (k : Nat) : Nat := if k = 0 then 12 else if k = 1 then 3 else 9
theorem sv_lo : ∀ k, k < 4 → sv 1 k = nI (loS k) ∧ sv 2 k = nI (hiS k) := by decide +kernel
theorem pw_mayBeSet {M : Mem} {k : Nat} {c : Int32} {Q : Int32 → Mem → Prop} (hk : k < 4) (h0 : c < nI (loS k) ∨ nI (hiS k) < c → Q (nI 0) M) (h1 : ¬ c < nI (loS k) → ¬ nI (hiS k) < c → Q (nI 1) M) : w_X6_mayBeSet (nI k) c M Q := by
  unfold w_X6_mayBeSet
  rw [nI_clamp (by omega), (sv_lo k hk).1, (sv_lo k hk).2]
  have e4 : (4 : Int32) = nI 4 := rfl
  rw [e4]
  refine ⟨fun z => absurd z (nI_neg (by omega)), fun _ => ⟨fun z => ?_, fun _ => ⟨fun _ => ⟨vp_in_nI hk (by decide), fun z => h0 (Or.inl z), fun z => ⟨vp_in_nI hk (by decide), fun y => h0 (Or.inr y), fun y => h1 z y⟩⟩, fun z => ?_⟩⟩⟩
  · rw [nI_leI (by decide) (by omega)] at z; omega
  · rw [nI_ltI (by omega) (by decide)] at z; omega
theorem pm_set {MM : Mem} {k : Nat} {c : Int32} {Q : Int32 → Mem → Prop} (hk : k < 4) (h0 : c < nI (loS k) ∨ nI (hiS k) < c → Q (-1002) MM)
    (h1 : ¬ c < nI (loS k) → ¬ nI (hiS k) < c → ((¬ (MM 1 (18 + k)) = c → w_X7_know MM (fun M11 => w_X7_puts (nI (18 + k)) c M11 (fun v13 M12 => Q v13 M12))) ∧ ((MM 1 (18 + k)) = c → Q (-1005) MM))) : w_X7_set (nI k) c MM Q := by
  unfold w_X7_set
  have tail : ∀ lo hi : Nat, lo = loS k → hi = hiS k → w_X7_in (nI k) (nI 0) (nI 3) MM (fun v5 M4 => ((v5 = 0 → Q (-1002 : Int32) M4) ∧ (¬ v5 = 0 → w_X7_in c (nI lo) (nI hi) M4 (fun v8 M7 => ((¬ v8 = 0 → (vp_in ((nI 18) + nI k) 23 ∧ ((¬ (M7 1 ((nI 18) + nI k).toNatClampNeg) = c → w_X7_know M7 (fun M11 => w_X7_puts ((nI 18) + nI k) c M11 (fun v13 M12 => Q v13 M12))) ∧ ((M7 1 ((nI 18) + nI k).toNatClampNeg) = c → Q (-1005 : Int32) M7)))) ∧ (v8 = 0 → Q (-1002 : Int32) M7)))))) := by
    intro lo hi e1 e2
    subst e1; subst e2
    refine pw_in (fun z => ?_) (fun _ _ => ⟨fun z => absurd z (by decide), fun _ => pw_in (fun z => ⟨fun y => absurd rfl y, fun _ => h0 z⟩) (fun z y => ⟨fun _ => ?_, fun w => absurd w (by decide)⟩)⟩)
    · rcases z with z | z
      · rw [nI_ltI (by omega) (by decide)] at z; omega
      · rw [nI_ltI (by decide) (by omega)] at z; omega
    · rw [nI_add, nI_clamp (by omega)]
      exact ⟨vp_in_nI (by omega) (by decide), h1 z y⟩
  refine ⟨fun z => ⟨fun _ => ⟨fun y => ?_, fun y => ?_⟩, fun y => absurd y z⟩, fun z => ⟨fun y => absurd z y, fun _ => ?_⟩⟩
  · have n0 : k ≠ 0 := fun e => z (by rw [e]; rfl)
    have n1 : k ≠ 1 := fun e => y (by rw [e])
    exact tail 0 9 (by unfold loS; rw [if_neg n0]) (by unfold hiS; rw [if_neg n0, if_neg n1])
  · have e1 : k = 1 := nI_inj (by omega) (by decide) y
    subst e1
    exact tail 0 3 rfl rfl
  · have e1 : k = 0 := (nI_z (by omega)).mp z
    subst e1
    exact tail 1 12 rfl rfl
theorem pr_set {MC MM : Mem} {a c : Int32} (h : REL MC MM) : w_X6_set a c MC (EQA MM (w_X7_set a c)) := by
  obtain ⟨⟨G, hV, hC, hR⟩, ⟨k, H, hH, hM, hHV⟩, -⟩ := id h
  have h7 := hV.1.2
  have out : (∀ k, k < 4 → a ≠ nI k) → EQA MM (w_X7_set a c) (-1002) MC := by
    intro hno
    show w_X7_set a c MM _
    have t : ∀ (X : Int32 → Mem → Prop), w_X7_in a (nI 0) (nI 3) MM (fun v5 M4 => ((v5 = 0 → (fun v' MM' => (-1002 : Int32) = v' ∧ REL MC MM') (-1002 : Int32) M4) ∧ (¬ v5 = 0 → X v5 M4))) := by
      intro X
      refine pw_in (fun _ => ⟨fun _ => ⟨rfl, h⟩, fun z => absurd rfl z⟩) (fun z y => ?_)
      rw [nI_0] at z
      obtain ⟨j, hj, e⟩ := nI_of z
      rw [e, nI_ltI (by decide) hj] at y
      exact absurd e (hno j (by omega))
    unfold w_X7_set
    exact ⟨fun _ => ⟨fun _ => ⟨fun _ => t _, fun _ => t _⟩, fun _ => t _⟩, fun _ => ⟨fun _ => ⟨fun _ => t _, fun _ => t _⟩, fun _ => t _⟩⟩
  unfold w_X6_set
  by_cases hk4 : ∃ k, k < 4 ∧ a = nI k
  · obtain ⟨j, hj, ea⟩ := hk4
    subst ea
    refine pw_mayBeSet hj (fun z => ⟨fun y => absurd rfl y, fun _ => pm_set hj (fun _ => ⟨rfl, h⟩) (fun z1 z2 => absurd z (fun q => q.elim z1 z2))⟩) (fun z1 z2 => ⟨fun _ => ?_, fun y => absurd y (by decide)⟩)
    obtain ⟨v, hv, ev⟩ : ∃ v : Nat, (loS j ≤ v ∧ v ≤ hiS j) ∧ c = nI v := by
      have b1 : loS j ≤ 1 := by unfold loS; split <;> omega
      have b2 : hiS j ≤ 12 := by unfold hiS; split <;> (try split) <;> omega
      rcases nI_cases c with q | ⟨i, hi, e⟩
      · refine absurd ?_ z1
        by_cases e1 : loS j = 0
        · rw [e1]; exact q
        · rw [show loS j = 1 by omega]; exact Int32.lt_trans q (by decide)
      · subst e
        rw [nI_ltI hi (by omega)] at z1
        rw [nI_ltI (by omega) hi] at z2
        exact ⟨i, by omega, rfl⟩
    subst ev
    have hv12 : v ≤ 12 := by
      have b2 : hiS j ≤ 12 := by unfold hiS; split <;> (try split) <;> omega
      omega
    refine pw_settingAt hj ?_
    have eS : MC (1 + 2) j = nI (G (18 + j)) := hC.2.2.2.2.2.2 j hj
    rw [eS]
    refine ⟨fun ne => ?_, fun eq => pm_set hj (fun z => absurd z (fun q => q.elim z1 z2)) (fun _ _ => ⟨fun z => absurd (by rw [hR _ (by omega)]; exact eq) z, fun _ => ⟨rfl, h⟩⟩)⟩
    refine pw_record hC hV.2.2.2.2.1 hH (fun M1 hH1 f1 => ?_)
    have hC1 : CS M1 1 G := hC.kept (f1 _ (by decide)) (f1 _ (by decide)) (f1 _ (by decide))
    unfold w_X4_putSetting
    refine ⟨fun z => absurd z (nI_neg (by omega)), fun _ => ⟨fun z => ?_, fun _ => ⟨vp_in_nI (by omega) (by decide), ?_⟩⟩⟩
    · rw [nI_leI (by decide) (by omega)] at z; omega
    rintro _ rfl
    rw [nI_clamp (by omega)]
    refine pm_set hj (fun z => absurd z (fun q => q.elim z1 z2)) (fun _ _ => ⟨fun _ => ?_, fun z => absurd (by rw [hR _ (by omega)] at z; exact z) ne⟩)
    refine pw_know hR hM (fun M2 hM2 g1 g2 => ?_)
    refine pw_puts (by omega) ?_
    rw [g1 1 (by decide) (by decide), hR _ (by omega)]
    have hV2 : VG (upG G (18 + j) v) := VG_set hV hj (by
      unfold loS hiS at hv
      refine ⟨fun e => ?_, fun e => ?_, fun e => ?_, fun e => ?_⟩ <;> (subst e; simp at hv; omega))
    refine ⟨rfl, h.act hV2 (CS_set hC1 j v hj) (by rw [um_s]; exact RG_set hR _ v) (hH1.kept (fun a a1 a2 => um_n (by omega))) (hM2.kept (by rw [um_n (by decide)]) (um_n (by decide))) (push_ok hHV hM.1 hV) (fun a ha => ?_) ?_ ?_ ?_⟩
    · rw [um_n (by omega)]; exact f1 a (by omega)
    · rw [um_n (by decide)]; exact g1 3 (by decide) (by decide)
    · rw [um_n (by decide)]; exact g1 4 (by decide) (by decide)
    · intro i hi; rw [um_n (by decide)]; exact g2 i hi
  · have hno : ∀ k, k < 4 → a ≠ nI k := fun j hj e => hk4 ⟨j, hj, e⟩
    have ans : ∀ X : Int32 → Mem → Prop, X (nI 0) MC → w_X6_mayBeSet a c MC X := by
      intro X hX
      unfold w_X6_mayBeSet
      refine ⟨fun _ => hX, fun z => ⟨fun _ => hX, fun y => ?_⟩⟩
      obtain ⟨j, hj, e⟩ := nI_of z
      rw [e, show (4 : Int32) = nI 4 from rfl, nI_leI (by decide) hj] at y
      exact absurd e (hno j (by omega))
    exact ans _ ⟨fun y => absurd rfl y, fun _ => out hno⟩
