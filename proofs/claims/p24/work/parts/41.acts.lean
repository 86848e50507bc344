/-! what each call that changes the class's state answers -/
def okv (v : Int32) : Prop := ¬ v < -1005
theorem okv_nI {j : Nat} (h : j < 2 ^ 31) : okv (nI j) := fun z => nI_neg h (Int32.lt_trans z (by decide))
theorem okv_none : okv (-1005) := fun z => absurd z (by decide)
theorem okv_not : okv (-1004) := fun z => absurd z (by decide)
def bdG (G : GN) (b : Nat) : GN := upG (upG G 16 (G 16 ||| 2 ^ b)) 22 (G 22 + 1)
section ACTS
variable {M : Mem} {G : GN} {ko : Option GN} {t : Nat} {c : GN} {Q : Int32 → Mem → Prop}
theorem pc_layOver (h : ST M G ko t c) (hQ : ∀ M', ST M' (upG G 17 (1 - G 17)) ko t c → Q (nI (1 - G 17)) M') : w_X6_layOver M Q := by
  obtain ⟨hV, hC, ⟨k, H, hH, hHV⟩, -⟩ := id h
  unfold w_X6_layOver
  have h17 : G 17 ≤ 1 := hV.2.2.2.2.1
  refine pw_record hC h17 hH (fun M1 hH1 f1 => ?_)
  have hC1 : CS M1 1 G := hC.kept (f1 _ (by decide)) (f1 _ (by decide)) (f1 _ (by decide))
  rw [hC1.2.2.2.1]
  have key : ∀ v, v = 1 - G 17 → Q (nI v) (um M1 1 (upd (M1 1) 3 (nI v))) := by
    rintro v rfl
    exact hQ _ (h.act (VG_over hV (by omega)) (CS_over hC1 _) (hH1.kept (fun a a1 a2 => um_n (by omega))) (push_ok hHV hH.1 hV) (fun a ha => by rw [um_n (by omega)]; exact f1 a (by omega)))
  refine ⟨fun z => ?_, fun z => ?_⟩
  · have e1 : G 17 = 1 := by
      rcases (show G 17 = 0 ∨ G 17 = 1 by omega) with e | e
      · rw [e] at z; exact absurd rfl z
      · exact e
    rintro _ rfl
    rw [um_s, upd_s]
    exact pw_asNumber (by decide) (key 0 (by rw [e1]))
  · have e1 : G 17 = 0 := (nI_z (by omega)).mp z
    rintro _ rfl
    rw [um_s, upd_s]
    exact pw_asNumber (by decide) (key 1 (by rw [e1]))
theorem bdG_16 (G : GN) (b : Nat) : bdG G b 16 = G 16 ||| 2 ^ b := by
  unfold bdG
  rw [upG_n (by decide), upG_s]
theorem bdG_o {G : GN} {b j : Nat} (h1 : j ≠ 16) (h2 : j ≠ 22) : bdG G b j = G j := by
  unfold bdG
  rw [upG_n h2, upG_n h1]
theorem pc_bend {b : Nat} (h : ST M G ko t c) (hb : b < G 0) (h0 : rsn (cor G) b (G 16) (G 17) = 0 → ∀ M', ST M' (bdG G b) ko t c → Q (nI (pcn (G 16 ||| 2 ^ b))) M') (h1 : rsn (cor G) b (G 16) (G 17) ≠ 0 → ∀ M', ST M' G ko t c → Q (-1004) M') : w_X6_bend (nI b) M Q := by
  obtain ⟨hV, hC, ⟨k, H, hH, hHV⟩, -⟩ := id h
  have h7 := hV.1.2
  have h17 : G 17 ≤ 1 := hV.2.2.2.2.1
  unfold w_X6_bend
  refine pw_hasBendY hC.1 h7 hb ⟨fun _ => ?_, fun z => absurd z (by decide)⟩
  rw [hC.2.2.1, hC.2.2.2.1]
  have hbc : b < cor G 0 := by rw [cor_0]; exact hb
  refine pw_reason (by decide) hV.cv (hC.cc hV) hbc hV.d h17 (fun M0 f0 => ?_)
  have hs := h.geo f0
  have hC1 : CS M0 1 G := hs.c
  have hH1 : HC M0 k H := hH.kept (fun a a1 a2 => f0 a (by omega))
  have hr0 := rsn_le (cor G) b (G 16) (G 17)
  refine ⟨fun z => ?_, fun z => h1 (fun e => z (by rw [e]; rfl)) M0 hs⟩
  have r0 := (nI_z (by omega)).mp z
  refine pw_record hC1 h17 hH1 (fun M1 hH2 f2 => ?_)
  have hC2 : CS M1 1 G := hC1.kept (f2 _ (by decide)) (f2 _ (by decide)) (f2 _ (by decide))
  unfold w_X4_doBend
  rintro _ rfl _ rfl
  have hlt := bit_lt2 (G 0) (by omega) (G 16) hV.2.2.2.1 b hb
  have hVd : VG (bdG G b) := VG_bdg (VG_done hV hlt) (G 22 + 1)
  rw [hC2.2.2.1, bit_set _ hV.d b (by omega), um_s, upd_n (show (4 : Nat) ≠ 2 by decide), hC2.2.2.2.2.1, nI_add]
  have hC3 := CS_bdg (CS_done hC2 (G 16 ||| 2 ^ b)) (G 22 + 1)
  rw [um_s] at hC3
  have hd128 := bit_or_lt (G 16) hV.d b (by omega)
  have hC3' : CS (um (um M1 1 (upd (M1 1) 2 (nI (G 16 ||| 2 ^ b)))) 1 (upd (upd (M1 1) 2 (nI (G 16 ||| 2 ^ b))) 4 (nI (G 22 + 1)))) 1 (bdG G b) := hC3
  refine pw_doneBends (d := G 16 ||| 2 ^ b) (by rw [hC3'.2.2.1, bdG_16]) hd128 ?_
  exact h0 r0 _ (hs.act hVd hC3' (hH2.kept (fun a a1 a2 => by rw [um_n (by omega), um_n (by omega)])) (push_ok hHV hH.1 hV) (fun a ha => by rw [um_n (by omega), um_n (by omega)]; exact f2 a (by omega)))
theorem pc_flatten {b : Nat} (h : ST M G ko t c) (hb : b < G 0) (hQ : ∀ v G' M', okv v → ST M' G' ko t c → Q v M') : w_X6_flatten (nI b) M Q := by
  obtain ⟨hV, hC, ⟨k, H, hH, hHV⟩, -⟩ := id h
  have h7 := hV.1.2
  unfold w_X6_flatten
  refine pw_hasBendY hC.1 h7 hb ⟨fun _ => ?_, fun z => absurd z (by decide)⟩
  refine pw_isDone hC.2.2.1 hV.d (by omega) ?_
  by_cases hd : (G 16).testBit b = true
  · rw [if_pos hd]
    refine ⟨fun _ => ?_, fun z => absurd z (by decide)⟩
    refine pw_record hC hV.2.2.2.2.1 hH (fun M1 hH1 f1 => ?_)
    have hC1 : CS M1 1 G := hC.kept (f1 _ (by decide)) (f1 _ (by decide)) (f1 _ (by decide))
    rintro _ rfl
    rw [hC1.2.2.1, bit_clr _ hV.d b (by omega), if_pos hd]
    have hlt : G 16 - 2 ^ b < 2 ^ G 0 := by
      have := bit_lt (G 0) (by omega) (G 16) hV.2.2.2.1 b (by omega)
      rw [if_pos hd] at this
      exact this
    have hVd := VG_done hV hlt
    have hC2 := CS_done hC1 (G 16 - 2 ^ b)
    refine pw_doneBends hC2.2.2.1 hVd.d ?_
    refine hQ _ _ _ (okv_nI (by have := pcn_le _ hVd.d; omega)) (h.act hVd hC2 (hH1.kept (fun a a1 a2 => um_n (by omega))) (push_ok hHV hH.1 hV) (fun a ha => by rw [um_n (by omega)]; exact f1 a (by omega)))
  · rw [if_neg hd]
    exact ⟨fun z => absurd rfl z, fun _ => hQ _ _ _ okv_none h⟩
theorem pc_setLength {f v : Nat} (h : ST M G ko t c) (hf : f ≤ G 0) (hv : 1 ≤ v ∧ v ≤ 9) (hQ : ∀ v G' M', okv v → ST M' G' ko t c → Q v M') : w_X6_setLength (nI f) (nI v) M Q := by
  obtain ⟨hV, hC, ⟨k, H, hH, hHV⟩, -⟩ := id h
  have h7 := hV.1.2
  unfold w_X6_setLength
  refine pw_hasFlangeY hC.1 h7 hf ⟨fun _ => ⟨fun z => ?_, fun _ => ⟨fun _ => ⟨fun d0 => ?_, fun _ => hQ _ _ _ okv_not h⟩, fun z => ?_⟩⟩, fun z => absurd z (by decide)⟩
  · rw [nI_ltI (by omega) (by decide)] at z; omega
  · refine pw_lengthAt (by omega) ?_
    have eL : M (1 + 1) f = nI (G (1 + f)) := hC.2.2.2.2.2.1 f (by omega)
    rw [eL]
    have hb9 := hV.2.1 f hf
    refine ⟨fun ne => ?_, fun _ => hQ _ _ _ okv_none h⟩
    refine pw_record hC hV.2.2.2.2.1 hH (fun M1 hH1 f1 => ?_)
    have hC1 : CS M1 1 G := hC.kept (f1 _ (by decide)) (f1 _ (by decide)) (f1 _ (by decide))
    unfold w_X4_putLength
    refine ⟨fun z => absurd z (nI_neg (by omega)), fun _ => ⟨fun z => ?_, fun _ => ⟨vp_in_nI (by omega) (by decide), ?_⟩⟩⟩
    · rw [nI_leI (by decide) (by omega)] at z; omega
    rintro _ rfl
    rw [nI_clamp (by omega)]
    exact hQ _ _ _ (okv_nI (by omega)) (h.act (VG_len hV hf hv) (CS_len hC1 f v (by omega)) (hH1.kept (fun a a1 a2 => um_n (by omega))) (push_ok hHV hH.1 hV) (fun a ha => by rw [um_n (by omega)]; exact f1 a (by omega)))
  · rw [nI_leI (by omega) (by decide)] at z; omega
theorem pc_setUp {b e : Nat} (h : ST M G ko t c) (hb : b < G 0) (he : e ≤ 1) (hQ : ∀ v G' M', okv v → ST M' G' ko t c → Q v M') : w_X6_setUp (nI b) (nI e) M Q := by
  obtain ⟨hV, hC, ⟨k, H, hH, hHV⟩, -⟩ := id h
  have h7 := hV.1.2
  unfold w_X6_setUp
  refine pw_hasBendY hC.1 h7 hb ⟨fun _ => ⟨fun d0 => ?_, fun _ => hQ _ _ _ okv_not h⟩, fun z => absurd z (by decide)⟩
  refine pw_isUp hC hV hb ⟨fun _ => ?_, fun _ => hQ _ _ _ okv_none h⟩
  refine pw_record hC hV.2.2.2.2.1 hH (fun M1 hH1 f1 => ?_)
  have hC1 : CS M1 1 G := hC.kept (f1 _ (by decide)) (f1 _ (by decide)) (f1 _ (by decide))
  obtain ⟨u, hu, hu2, hu3⟩ := hC1.2.1
  have fin : ∀ u', u' < 128 → (∀ j, j < 7 → u'.testBit j = if j = b then decide (e = 1) else u.testBit j) → w_J6_bitCount_0f7a4 (um M1 1 (upd (M1 1) 1 (nI u')) 1 1) (um M1 1 (upd (M1 1) 1 (nI u'))) (fun v11 M10 => Q v11 M10) := by
    intro u' hu' hbits
    have hC2 := CS_up hC1 (u' := u') hb (by omega) he hu' (fun w hw hw2 j hj => by
      rw [hu] at hw
      have := nI_inj (by omega) (by omega) hw
      subst this
      exact hbits j hj)
    have hV2 := VG_up hV (b := b) (by omega) he
    rw [um_s, upd_s]
    refine pw_bc hu' ?_
    exact hQ _ _ _ (okv_nI (by have := pcn_le u' hu'; omega)) (h.act hV2 hC2 (hH1.kept (fun a a1 a2 => um_n (by omega))) (push_ok hHV hH.1 hV) (fun a ha => by rw [um_n (by omega)]; exact f1 a (by omega)))
  unfold w_X4_putUp
  rw [hu]
  refine ⟨fun c0 => ?_, fun c0 => ?_⟩
  · have e0 : e = 0 := (nI_z (by omega)).mp c0
    rintro _ rfl
    rw [bit_clr u hu2 b (by omega)]
    refine fin _ (bit_cl_lt u hu2 b (by omega)) (fun j hj => ?_)
    rw [bit_cl_t u hu2 b (by omega) j hj]
    by_cases cj : j = b
    · simp [cj, e0]
    · simp [cj]
  · have e1 : e = 1 := by
      rcases (show e = 0 ∨ e = 1 by omega) with y | y
      · rw [y] at c0; exact absurd rfl c0
      · exact y
    rintro _ rfl
    rw [bit_set u hu2 b (by omega)]
    refine fin _ (bit_or_lt u hu2 b (by omega)) (fun j hj => ?_)
    rw [bit_or_t u hu2 b (by omega) j hj]
    by_cases cj : j = b
    · simp [cj, e1]
    · simp [cj]
theorem pc_set {j v : Nat} (h : ST M G ko t c) (hj : j < 4) (hv : loS j ≤ v ∧ v ≤ hiS j) (hQ : ∀ v G' M', okv v → ST M' G' ko t c → Q v M') : w_X6_set (nI j) (nI v) M Q := by
  obtain ⟨hV, hC, ⟨k, H, hH, hHV⟩, -⟩ := id h
  have b1 : loS j ≤ 1 := by unfold loS; split <;> omega
  have b2 : hiS j ≤ 12 := by unfold hiS; split <;> (try split) <;> omega
  unfold w_X6_set
  refine pw_mayBeSet hj (fun z => ?_) (fun _ _ => ⟨fun _ => ?_, fun y => absurd y (by decide)⟩)
  · exfalso
    rcases z with z | z
    · rw [nI_ltI (by omega) (by omega)] at z; omega
    · rw [nI_ltI (by omega) (by omega)] at z; omega
  refine pw_settingAt hj ?_
  have eS : M (1 + 2) j = nI (G (18 + j)) := hC.2.2.2.2.2.2 j hj
  rw [eS]
  have hg : G (18 + j) < 2 ^ 31 := by
    obtain ⟨v1, v2, v3, v4, v5, v6, v7, v8, v9⟩ := hV
    rcases (show j = 0 ∨ j = 1 ∨ j = 2 ∨ j = 3 by omega) with e | e | e | e
    · subst e; show G 18 < 2 ^ 31; omega
    · subst e; show G 19 < 2 ^ 31; omega
    · subst e; show G 20 < 2 ^ 31; omega
    · subst e; show G 21 < 2 ^ 31; omega
  refine ⟨fun ne => ?_, fun eq => hQ _ _ _ okv_none h⟩
  refine pw_record hC hV.2.2.2.2.1 hH (fun M1 hH1 f1 => ?_)
  have hC1 : CS M1 1 G := hC.kept (f1 _ (by decide)) (f1 _ (by decide)) (f1 _ (by decide))
  unfold w_X4_putSetting
  refine ⟨fun z => absurd z (nI_neg (by omega)), fun _ => ⟨fun z => ?_, fun _ => ⟨vp_in_nI (by omega) (by decide), ?_⟩⟩⟩
  · rw [nI_leI (by decide) (by omega)] at z; omega
  rintro _ rfl
  rw [nI_clamp (by omega)]
  have hV2 : VG (upG G (18 + j) v) := VG_set hV hj (by
    unfold loS hiS at hv
    refine ⟨fun e => ?_, fun e => ?_, fun e => ?_, fun e => ?_⟩ <;> (subst e; simp at hv; omega))
  exact hQ _ _ _ (okv_nI hg) (h.act hV2 (CS_set hC1 j v hj) (hH1.kept (fun a a1 a2 => um_n (by omega))) (push_ok hHV hH.1 hV) (fun a ha => by rw [um_n (by omega)]; exact f1 a (by omega)))
theorem pc_follow {p : Nat} (h : ST M G ko t c) (hp : 1 ≤ p ∧ p ≤ 7) (h0 : wS (cor G) (G 16) = 0 → ∀ M', ST M' G ko t c → Q (-1004) M') (h2 : 0 < wS (cor G) (G 16) → pcn (G 16) = G 0 → ∀ M', ST M' G ko t c → Q (-1005) M')
    (h1 : 0 < wS (cor G) (G 16) → pcn (G 16) < G 0 → ∀ v G' M', okv v → ST M' G' ko t c → Q v M') : w_X6_follow (nI p) M Q := by
  obtain ⟨hV, hC, ⟨k, H, hH, hHV⟩, -⟩ := id h
  have h7 := hV.1.2
  have hp2 := p2_le h7
  have h17 : G 17 ≤ 1 := hV.2.2.2.2.1
  have hd := h.d
  have hpc := h.pc
  unfold w_X6_follow
  refine ⟨fun z => ?_, fun _ => ⟨fun _ => ?_, fun z => ?_⟩⟩
  · rw [nI_ltI (by omega) (by decide)] at z; omega
  · refine pw_hasOrder hC hV h.pln (fun M1 f1 p1 => ⟨fun hw => ⟨fun _ => ?_, fun z => absurd z (by decide)⟩, fun hw => ⟨fun z => absurd rfl z, fun _ => h0 hw M1 (h.plan f1 p1)⟩⟩)
    have hs1 := h.plan f1 p1
    have hC1 : CS M1 1 G := hs1.c
    have hH1 : HC M1 k H := hH.kept (fun a a1 a2 => f1 a (by omega))
    refine pw_openBends hC1.1 hC1.2.2.1 hV.d hpc ?_
    rw [nI_z (by omega)]
    refine ⟨fun z => ?_, fun z => h2 hw (by omega) M1 hs1⟩
    refine pw_record hC1 h17 hH1 (fun M2 hH2 f2 => ?_)
    have hC2 : CS M2 1 G := hC1.kept (f2 _ (by decide)) (f2 _ (by decide)) (f2 _ (by decide))
    have hP2 : PLNS M2 (cor G) := ⟨by rw [f2 31 (by decide)]; exact p1.1, p1.2.1.kept (f2 _ (by decide)) (f2 _ (by decide)) (f2 _ (by decide)), fun d q => by rw [f2 43 (by decide), f2 44 (by decide)]; exact p1.2.2 d q⟩
    rintro _ rfl
    obtain ⟨m, hm, em⟩ : ∃ m : Nat, pcn (G 16) + m ≤ G 0 ∧ (if nI (G 0 - pcn (G 16)) < nI p then nI (G 0 - pcn (G 16)) else nI p) = nI m := by
      by_cases q : G 0 - pcn (G 16) < p
      · exact ⟨G 0 - pcn (G 16), by omega, if_pos (by rw [nI_ltI (by omega) (by omega)]; exact q)⟩
      · exact ⟨p, by omega, if_neg (by rw [nI_ltI (by omega) (by omega)]; exact q)⟩
    rw [em]
    refine lq_fol62 hV hP2 hw hm (fun x M3 f3 c3 => ?_) FU 0 M2 (Nat.zero_le _) (by show _ ≤ 1000 + 0; omega) (fun _ _ => rfl) hC2
    have hVm := GF_V hV hw m hm
    refine pw_doneBends c3.2.2.1 hVm.d ?_
    exact h1 hw (by omega) _ _ _ (okv_nI (by have := pcn_le _ hVm.d; omega)) (hs1.act hVm c3 (hH2.kept (fun a a1 a2 => f3 a (by omega))) (push_ok hHV hH.1 hV) (fun a ha => by rw [f3 a (by omega)]; exact f2 a (by omega)))
  · rw [nI_leI (by omega) (by decide)] at z; omega
theorem pc_keep (h : ST M G ko t c) (hQ : ∀ M', ST M' G (some G) t c → Q (nI (pcn (G 16))) M') : w_X6_keep M Q := by
  obtain ⟨hV, hC, ⟨k, H, hH, hHV⟩, hK, hT, hP⟩ := id h
  unfold w_X6_keep
  refine pw_copyFrom (by decide) hC hV.2.2.2.2.1 (fun M1 c4 c1 f1 _ => ?_)
  rintro _ rfl
  have ck : ∀ a, a ≠ 0 → um M1 0 (upd (M1 0) 2 (nI 1)) a = M1 a := fun a a0 => um_n a0
  refine pw_doneBends (by rw [ck 1 (by decide)]; exact c1.2.2.1) hV.d ?_
  refine hQ _ ⟨hV, c1.kept (ck _ (by decide)) (ck _ (by decide)) (ck _ (by decide)), ⟨k, H, hH.kept (fun a a1 a2 => by rw [ck a (by omega)]; exact f1 a (by omega) (by omega) (by omega)), hHV⟩, fun K hK' => ?_, ?_, hP.kept ?_ ?_ ?_ ?_ ?_ ?_⟩
  · have e : G = K := Option.some.inj hK'
    subst e
    exact ⟨by rw [um_s, upd_s], hV, c4.kept (ck _ (by decide)) (ck _ (by decide)) (ck _ (by decide))⟩
  · unfold TXC
    rw [ck 21 (by decide), ck 22 (by decide), f1 21 (by decide) (by decide) (by decide), f1 22 (by decide) (by decide) (by decide)]
    exact hT
  all_goals (rw [ck _ (by decide)]; exact f1 _ (by decide) (by decide) (by decide))
theorem pc_restore {K : GN} (h : ST M G (some K) t c) (hQ : ∀ M', ST M' K (some K) t c → Q (nI (pcn (K 16))) M') : w_X6_restore M Q := by
  obtain ⟨hV, hC, ⟨k, H, hH, hHV⟩, hK, hT, hP⟩ := id h
  obtain ⟨k1, hV4, hC4⟩ := hK K rfl
  unfold w_X6_restore
  rw [k1]
  refine ⟨fun _ => ?_, fun e => absurd e (by decide)⟩
  refine pw_record hC hV.2.2.2.2.1 hH (fun M1 hH1 f1 => ?_)
  have hC41 : CS M1 4 K := hC4.kept (f1 _ (by decide)) (f1 _ (by decide)) (f1 _ (by decide))
  refine pw_copyFrom (by decide) hC41 hV4.2.2.2.2.1 (fun M2 c1 c4 f2 _ => ?_)
  refine pw_doneBends c1.2.2.1 hV4.d ?_
  exact hQ _ (h.act hV4 c1 (hH1.kept (fun a a1 a2 => f2 a (by omega) (by omega) (by omega))) (push_ok hHV hH.1 hV) (fun a ha => by rw [f2 a (by omega) (by omega) (by omega)]; exact f1 a (by omega)))
theorem ST.text {M' : Mem} {t' : Nat} {c' : GN} (h : ST M G ko t c) (f : ∀ a, a ≠ 21 → a ≠ 22 → M' a = M a) (hT : TXC M' t' c') : ST M' G ko t' c' := by
  obtain ⟨hV, hC, ⟨k, H, hH, hHV⟩, hK, -, hP⟩ := h
  refine ⟨hV, hC.kept (f _ (by decide) (by decide)) (f _ (by decide) (by decide)) (f _ (by decide) (by decide)), ⟨k, H, hH.kept (fun a a1 a2 => f a (by omega) (by omega)), hHV⟩, fun K hK' => ?_, hT, hP.kept (f _ (by decide) (by decide)) (f _ (by decide) (by decide)) (f _ (by decide) (by decide)) (f _ (by decide) (by decide)) (f _ (by decide) (by decide)) (f _ (by decide) (by decide))⟩
  obtain ⟨k1, k2, k3⟩ := hK K hK'
  exact ⟨by rw [f 0 (by decide) (by decide)]; exact k1, k2, k3.kept (f _ (by decide) (by decide)) (f _ (by decide) (by decide)) (f _ (by decide) (by decide))⟩
theorem pc_clearText (h : ST M G ko t c) (hQ : ∀ M', ST M' G ko 0 c → Q (nI t) M') : w_X6_clearText M Q := by
  obtain ⟨t1, t2, t3⟩ := h.2.2.2.2.1
  unfold w_X6_clearText
  rintro _ rfl _ rfl
  rw [t2]
  exact hQ _ (h.text (fun a a1 a2 => um_n a1) ⟨by decide, by rw [um_s, upd_s], fun i hi => by omega⟩)
theorem pc_type {x : Nat} (h : ST M G ko t c) (hx : x < 65536) (ht : t < 60) (hQ : ∀ M', ST M' G ko (t + 1) (upG c t x) → Q (nI (t + 1)) M') : w_X6_type (nI x) M Q := by
  obtain ⟨t1, t2, t3⟩ := h.2.2.2.2.1
  unfold w_X6_type
  rw [t2]
  refine ⟨fun e => ?_, fun e => ?_⟩
  · unfold w_X5_append
    rw [t2, nI_clamp (by omega)]
    refine ⟨fun z => absurd z (nI_neg (by omega)), fun _ => ⟨fun z => ?_, fun _ => ⟨vp_in_nI ht (by decide), ?_⟩⟩⟩
    · rw [nI_leI (by decide) (by omega)] at z; omega
    rintro _ rfl _ rfl
    rw [um_s, upd_s, um_n (show (21 : Nat) ≠ 22 by decide), t2, nI_add, char_nar hx]
    refine hQ _ (h.text (fun a a1 a2 => by rw [um_n a1, um_n a2]) ⟨by omega, by rw [um_s, upd_s], fun i hi => ?_⟩)
    rw [um_n (show (22 : Nat) ≠ 21 by decide), um_s, upd_a]
    unfold upG
    by_cases ei : i = t
    · rw [if_pos ei, if_pos ei]; exact ⟨hx, rfl⟩
    · rw [if_neg ei, if_neg ei]; exact t3 i (by omega)
  · have := nI_inj (by omega) (by decide) e
    omega
end ACTS
