/-! pairs: count, follow -/
theorem pr_count {MC MM : Mem} {a : Int32} (h : REL MC MM) : w_X6_count a MC (EQA MM (w_X7_count a)) := by
  obtain ⟨⟨G, hV, hC, hR⟩, ⟨k, H, hH, hM, hHV⟩, hK, ⟨t, t1, t2, t3, t4⟩, hPL⟩ := id h
  have h7 := hV.1.2
  have h17 : G 17 ≤ 1 := hV.2.2.2.2.1
  have hS := hV.cv
  have hd : G 16 < 2 ^ cor G 0 := by rw [cor_0]; exact hV.2.2.2.1
  have hRC := hR.rc hV
  have hCC := hC.cc hV
  unfold w_X6_count
  refine ⟨fun w0 => ?_, fun w0 => ⟨fun w1 => ?_, fun w1 => ⟨fun w2 => ?_, fun w2 => ⟨fun w3 => ?_, fun w3 => ⟨fun w4 => ?_, fun w4 => ⟨fun w5 => ?_, fun w5 => ⟨fun w6 => ?_, fun w6 => ⟨fun w7 => ?_, fun w7 => ⟨fun w8 => ?_, fun w8 => ⟨fun w9 => ?_, fun w9 => ⟨fun w10 => ?_, fun w10 => ⟨fun w11 => ?_, fun w11 => ⟨fun w12 => ?_, fun w12 => ⟨fun w13 => ?_, fun w13 => ?_⟩⟩⟩⟩⟩⟩⟩⟩⟩⟩⟩⟩⟩⟩
  · subst w0
    show w_X7_count _ MM _
    unfold w_X7_count
    refine ⟨fun _ => ⟨?_, h⟩, fun z => absurd rfl z⟩
    rw [hC.1, hR 0 (by decide)]
  · subst w1
    refine pw_doneBends hC.2.2.1 hV.d ?_
    show w_X7_count _ MM _
    unfold w_X7_count
    iterate 1 (refine ⟨fun z => absurd z (by decide), fun _ => ?_⟩)
    refine ⟨fun _ => ?_, fun z => absurd rfl z⟩
    rw [hR 16 (by decide)]
    exact pw_many hV.d ⟨rfl, h⟩
  · subst w2
    rw [hC.2.2.2.1]
    refine pw_asNumber h17 ?_
    show w_X7_count _ MM _
    unfold w_X7_count
    iterate 2 (refine ⟨fun z => absurd z (by decide), fun _ => ?_⟩)
    refine ⟨fun _ => ⟨?_, h⟩, fun z => absurd rfl z⟩
    rw [hR 17 (by decide)]
  · subst w3
    have key : ∀ (v : Int32) (MC' : Mem), REL MC' MM → (0 < wS (cor G) (G 16) → v = nI 1) → (wS (cor G) (G 16) = 0 → v = nI 0) → EQA MM (w_X7_count (nI 3)) v MC' := by
      intro v MC' h' e1 e0
      show w_X7_count _ MM _
      unfold w_X7_count
      iterate 3 (refine ⟨fun z => absurd z (by decide), fun _ => ?_⟩)
      refine ⟨fun _ => ?_, fun z => absurd rfl z⟩
      refine pw_allOrders hS hRC (hR 16 (by decide)) hd (fun M2 f2 t2 => ?_)
      rw [nI_gt0 (wS_lt hS hd)]
      exact ⟨fun z => ⟨e0 z, h'.planM f2⟩, fun z => ⟨e1 (by omega), h'.planM f2⟩⟩
    refine pw_hasOrder hC hV h.pln (fun M1 f1 p1 => ⟨fun hw => pw_asNumber (by decide) ?_, fun hw => pw_asNumber (by decide) ?_⟩)
    · exact key _ _ (h.planC hS cor_cor f1 p1) (fun _ => rfl) (fun z => absurd z (by omega))
    · exact key _ _ (h.planC hS cor_cor f1 p1) (fun z => absurd z (by omega)) (fun _ => rfl)
  · subst w4
    unfold w_X6_possibleNow
    refine lq_nowC hS hCC hC.2.2.1 hC.2.2.2.1 hV.d h17 (fun x M1 f1 => ?_) FU 0 MC (Nat.zero_le _) (by rw [cor_0]; show _ ≤ 1000 + 0; omega) (fun _ _ => rfl)
    show w_X7_count _ MM _
    unfold w_X7_count
    iterate 4 (refine ⟨fun z => absurd z (by decide), fun _ => ?_⟩)
    refine ⟨fun _ => ?_, fun z => absurd rfl z⟩
    unfold w_X7_canNow
    exact lq_nowM hS hRC (hR 16 (by decide)) (hR 17 (by decide)) hV.d h17 (fun x M2 f2 => ⟨rfl, (h.geoC f1).geoM f2⟩) FU 0 MM (Nat.zero_le _) (by rw [cor_0]; show _ ≤ 1000 + 0; omega) (PFR.refl _)
  · subst w5
    have key : ∀ (v : Int32) (MC' : Mem), REL MC' MM → (0 < wS (cor G) (G 16) → v = nI (tuF (cor G) (G 16) (G 17) (cor G 0 - pcn (G 16)))) → (wS (cor G) (G 16) = 0 → v = -1005) → EQA MM (w_X7_count (nI 5)) v MC' := by
      intro v MC' h' e1 e0
      show w_X7_count _ MM _
      unfold w_X7_count
      iterate 5 (refine ⟨fun z => absurd z (by decide), fun _ => ?_⟩)
      refine ⟨fun _ => ?_, fun z => absurd rfl z⟩
      unfold w_X7_turnings
      refine pw_allOrders hS hRC (hR 16 (by decide)) hd (fun M2 f2 t2 => ?_)
      rw [nI_z (wS_lt hS hd)]
      refine ⟨fun z => ?_, fun z => ⟨e0 z, h'.planM f2⟩⟩
      have row : M2 1 = MM 1 := f2.1 1 (by decide) (by decide)
      rintro _ rfl _ rfl
      rw [row, hR 16 (by decide), hR 17 (by decide)]
      refine lq_turnM hS (by rw [row]; exact hRC) t2 hd (by omega) h17 (fun x2 x3 => ⟨e1 (by omega), h'.planM f2⟩) FU 0 (by have := (pcn_full (cor G 0) (by rw [cor_0]; omega) _ hd).1; omega) (by rw [cor_0]; show _ ≤ 1000 + _; omega)
    refine pw_hasOrder hC hV h.pln (fun M1 f1 p1 => ⟨fun hw => ⟨fun z => absurd z (by decide), fun _ => ?_⟩, fun hw => ⟨fun _ => ?_, fun z => absurd rfl z⟩⟩)
    · rw [f1 1 (by decide), hC.2.2.1, hC.2.2.2.1]
      unfold w_X1_turnings
      refine pw_allBends p1.2.1.1 (by rw [cor_0]; exact h7) ?_
      refine lq_turnC p1 hS hd hw h17 (fun x1 x2 x5 => ?_) FU 0 (by have := (pcn_full (cor G 0) (by rw [cor_0]; omega) _ hd).1; omega) (by rw [cor_0]; show _ ≤ 1000 + _; omega)
      exact key _ _ (h.planC hS cor_cor f1 p1) (fun _ => rfl) (fun z => absurd z (by omega))
    · exact key _ _ (h.planC hS cor_cor f1 p1) (fun z => absurd z (by omega)) (fun _ => rfl)
  · subst w6
    unfold w_X4_wholeLength
    refine lq_lenC (L := fun f => G (1 + f)) h7 hC.1 (fun f hf => hC.2.2.2.2.2.1 f (by omega)) (fun x => ?_) FU 0 (Nat.zero_le _) (by show _ ≤ 1000 + 0; omega)
    show w_X7_count _ MM _
    unfold w_X7_count
    iterate 6 (refine ⟨fun z => absurd z (by decide), fun _ => ?_⟩)
    refine ⟨fun _ => ?_, fun z => absurd rfl z⟩
    unfold w_X7_wholeLength
    exact lq_lenM (L := fun f => G (1 + f)) h7 (hR 0 (by decide)) (fun f hf => hR _ (by omega)) (fun x => ⟨rfl, h⟩) FU 0 (Nat.zero_le _) (by show _ ≤ 1000 + 0; omega)
  · subst w7
    show w_X7_count _ MM _
    unfold w_X7_count
    iterate 7 (refine ⟨fun z => absurd z (by decide), fun _ => ?_⟩)
    refine ⟨fun _ => ⟨?_, h⟩, fun z => absurd rfl z⟩
    rw [hC.2.2.2.2.1, hR 22 (by decide)]
  · subst w8
    rw [show nI 8 - nI 8 = nI 0 by decide]
    refine pw_settingAt (by decide) ?_
    show w_X7_count _ MM _
    unfold w_X7_count
    iterate 8 (refine ⟨fun z => absurd z (by decide), fun _ => ?_⟩)
    refine ⟨fun _ => ⟨by rw [show nI 18 + nI 8 - nI 8 = nI 18 by decide]; exact vp_in_nI (by decide) (by decide), ?_, h⟩, fun z => absurd rfl z⟩
    rw [show (nI 18 + nI 8 - nI 8).toNatClampNeg = 18 by decide, hR 18 (by decide)]
    exact hC.2.2.2.2.2.2 0 (by decide)
  · subst w9
    rw [show nI 9 - nI 8 = nI 1 by decide]
    refine pw_settingAt (by decide) ?_
    show w_X7_count _ MM _
    unfold w_X7_count
    iterate 9 (refine ⟨fun z => absurd z (by decide), fun _ => ?_⟩)
    refine ⟨fun _ => ⟨by rw [show nI 18 + nI 9 - nI 8 = nI 19 by decide]; exact vp_in_nI (by decide) (by decide), ?_, h⟩, fun z => absurd rfl z⟩
    rw [show (nI 18 + nI 9 - nI 8).toNatClampNeg = 19 by decide, hR 19 (by decide)]
    exact hC.2.2.2.2.2.2 1 (by decide)
  · subst w10
    rw [show nI 10 - nI 8 = nI 2 by decide]
    refine pw_settingAt (by decide) ?_
    show w_X7_count _ MM _
    unfold w_X7_count
    iterate 10 (refine ⟨fun z => absurd z (by decide), fun _ => ?_⟩)
    refine ⟨fun _ => ⟨by rw [show nI 18 + nI 10 - nI 8 = nI 20 by decide]; exact vp_in_nI (by decide) (by decide), ?_, h⟩, fun z => absurd rfl z⟩
    rw [show (nI 18 + nI 10 - nI 8).toNatClampNeg = 20 by decide, hR 20 (by decide)]
    exact hC.2.2.2.2.2.2 2 (by decide)
  · subst w11
    rw [show nI 11 - nI 8 = nI 3 by decide]
    refine pw_settingAt (by decide) ?_
    show w_X7_count _ MM _
    unfold w_X7_count
    iterate 11 (refine ⟨fun z => absurd z (by decide), fun _ => ?_⟩)
    refine ⟨fun _ => ⟨by rw [show nI 18 + nI 11 - nI 8 = nI 21 by decide]; exact vp_in_nI (by decide) (by decide), ?_, h⟩, fun z => absurd rfl z⟩
    rw [show (nI 18 + nI 11 - nI 8).toNatClampNeg = 21 by decide, hR 21 (by decide)]
    exact hC.2.2.2.2.2.2 3 (by decide)
  · subst w12
    show w_X7_count _ MM _
    unfold w_X7_count
    iterate 12 (refine ⟨fun z => absurd z (by decide), fun _ => ?_⟩)
    refine ⟨fun _ => ⟨?_, h⟩, fun z => absurd rfl z⟩
    rw [hH.2.1, hM.2.1]
  · subst w13
    show w_X7_count _ MM _
    unfold w_X7_count
    iterate 13 (refine ⟨fun z => absurd z (by decide), fun _ => ?_⟩)
    refine ⟨fun _ => ⟨?_, h⟩, fun z => absurd rfl z⟩
    rw [t2, t3]
  · show w_X7_count _ MM _
    unfold w_X7_count
    exact ⟨fun z => absurd z w0, fun _ => ⟨fun z => absurd z w1, fun _ => ⟨fun z => absurd z w2, fun _ => ⟨fun z => absurd z w3, fun _ => ⟨fun z => absurd z w4, fun _ => ⟨fun z => absurd z w5, fun _ => ⟨fun z => absurd z w6, fun _ => ⟨fun z => absurd z w7, fun _ => ⟨fun z => absurd z w8, fun _ => ⟨fun z => absurd z w9, fun _ => ⟨fun z => absurd z w10, fun _ => ⟨fun z => absurd z w11, fun _ => ⟨fun z => absurd z w12, fun _ => ⟨fun z => absurd z w13, fun _ => ⟨rfl, h⟩⟩⟩⟩⟩⟩⟩⟩⟩⟩⟩⟩⟩⟩⟩
-- follow
def GF (G : Nat → Nat) : Nat → Nat → Nat
  | 0 => G
  | i + 1 => upG (upG (upG (GF G i) 17 (1 - G (9 + fs (cor G) (sqF (cor G) (G 16) i)))) 16 (sqF (cor G) (G 16) (i + 1))) 22 (GF G i 22 + 1)
theorem GF_o (G : Nat → Nat) {j : Nat} (h1 : j ≠ 16) (h2 : j ≠ 17) (h3 : j ≠ 22) : ∀ i, GF G i j = G j
  | 0 => rfl
  | i + 1 => by
    show upG (upG (upG (GF G i) 17 _) 16 _) 22 _ j = G j
    rw [upG_n h3, upG_n h1, upG_n h2]
    exact GF_o G h1 h2 h3 i
theorem GF_16 (G : Nat → Nat) : ∀ i, GF G i 16 = sqF (cor G) (G 16) i
  | 0 => rfl
  | i + 1 => by
    show upG (upG (upG (GF G i) 17 _) 16 _) 22 _ 16 = _
    rw [upG_n (by decide), upG_s]
theorem GF_V {G : Nat → Nat} (hV : VG G) (hw : 0 < wS (cor G) (G 16)) : ∀ i, pcn (G 16) + i ≤ G 0 → VG (GF G i) := by
  intro i
  induction i with
  | zero => intro _; exact hV
  | succ i ih =>
    intro hi
    have hd : G 16 < 2 ^ cor G 0 := by rw [cor_0]; exact hV.2.2.2.1
    have q := sq_ok hV.cv hd hw (i + 1) (by rw [cor_0]; omega)
    refine VG_bdg (VG_done (VG_over (ih (by omega)) (v := 1 - G (9 + fs (cor G) (sqF (cor G) (G 16) i))) (by omega)) (d := sqF (cor G) (G 16) (i + 1)) ?_) _
    rw [upG_n (by decide), GF_o G (by decide) (by decide) (by decide), ← cor_0 G]
    exact q.1
theorem lq_fol62 {M0 : Mem} {G : Nat → Nat} {m : Nat} {K : Int32 → Mem → Prop} (hV : VG G) (hP : PLNS M0 (cor G)) (hw : 0 < wS (cor G) (G 16)) (hm : pcn (G 16) + m ≤ G 0) (hK : ∀ x M, (∀ a, a ≠ 1 → M a = M0 a) → CS M 1 (GF G m) → K x M) :
    ∀ (n i : Nat) (M : Mem), i ≤ m → m + 1 ≤ n + i → (∀ a, a ≠ 1 → M a = M0 a) → CS M 1 (GF G i) → w_X6_follow_62 n (nI m) (nI i) M K := by
  intro n
  have h7 := hV.1.2
  have hp2 := p2_le h7
  have hd : G 16 < 2 ^ cor G 0 := by rw [cor_0]; exact hV.2.2.2.1
  have hS := hV.cv
  induction n with
  | zero => intro i M h1 h2; omega
  | succ n ih =>
    intro i M h1 h2 hM hC
    unfold w_X6_follow_62
    refine ⟨fun z => ?_, fun z => ?_⟩
    · rw [nI_leI (by omega) (by omega)] at z
      have e : i = m := by omega
      subst e
      exact hK _ M hM hC
    · rw [nI_leI (by omega) (by omega)] at z
      have hPM : PLNS M (cor G) := ⟨by rw [hM 31 (by decide)]; exact hP.1, hP.2.1.kept (hM _ (by decide)) (hM _ (by decide)) (hM _ (by decide)), fun d q => by rw [hM 43 (by decide), hM 44 (by decide)]; exact hP.2.2 d q⟩
      obtain ⟨q1, q2, q3, q4⟩ := sq_ok hS hd hw i (by rw [cor_0]; omega)
      have nf := sq_nf hS hd hw (k := i) (by rw [cor_0]; omega)
      have f1 := (fs_ok hS q1 nf q3).1
      rw [cor_0] at f1
      have hVi := GF_V hV hw i (by omega)
      rw [hC.2.2.1, GF_16]
      refine pw_firstStep hPM hS q1 nf q3 ?_
      refine pw_isUp hC hVi (by rw [GF_o G (by decide) (by decide) (by decide)]; exact f1) ?_
      rw [GF_o G (by omega) (by omega) (by omega)]
      have hu := hV.2.2.1 _ f1
      have step : ∀ o, o = 1 - G (9 + fs (cor G) (sqF (cor G) (G 16) i)) → ∀ M17 : Mem, M17 = um M 1 (upd (M 1) 3 (nI o)) → w_X4_doBend 1 (nI (fs (cor G) (sqF (cor G) (G 16) i))) M17 (fun M18 => ∀ y19 : Int32, y19 = nI i + (nI 1) → w_X6_follow_62 n (nI m) y19 M18 K) := by
        rintro o ho M1 e1
        unfold w_X4_doBend
        have c1 : CS M1 1 (upG (GF G i) 17 o) := by rw [e1]; exact CS_over hC o
        rintro M2 e2 M3 e3 _ rfl
        rw [c1.2.2.1, upG_n (by decide), GF_16, bit_set _ (by rw [cor_0] at q1; omega) _ (by omega)] at e2
        have c2 : CS M2 1 (upG (upG (GF G i) 17 o) 16 (sqF (cor G) (G 16) (i + 1))) := by rw [e2]; exact CS_done c1 _
        rw [c2.2.2.2.2.1, upG_n (by decide), upG_n (by decide), nI_add] at e3
        have c3 : CS M3 1 (GF G (i + 1)) := by
          show CS M3 1 (upG (upG (upG (GF G i) 17 _) 16 _) 22 _)
          rw [← ho, e3]
          exact CS_bdg c2 _
        rw [nI_add]
        exact ih (i + 1) M3 (by omega) (by omega) (fun a ha => by rw [e3, um_n ha, e2, um_n ha, e1, um_n ha]; exact hM a ha) c3
      refine ⟨fun c => ?_, fun c => ?_⟩
      · have : G (9 + fs (cor G) (sqF (cor G) (G 16) i)) = 1 := by
          refine Classical.byContradiction fun e => ?_
          rw [if_neg e] at c
          exact c rfl
        exact step 0 (by omega)
      · have : G (9 + fs (cor G) (sqF (cor G) (G 16) i)) = 0 := by
          refine Classical.byContradiction fun e => ?_
          rw [if_pos (by omega)] at c
          exact absurd c (by decide)
        exact step 1 (by omega)
theorem lq_fol49 {M0 : Mem} {G : Nat → Nat} {m p : Nat} {K : Int32 → Mem → Prop} (hV : VG G) (hT : MTB M0 (cor G) (G 16)) (hw : 0 < wS (cor G) (G 16)) (hm : pcn (G 16) + m ≤ G 0) (hmp : m ≤ p) (hp31 : p < 2 ^ 31) (hmin : m = p ∨ pcn (G 16) + m = G 0) (hK : ∀ x M, (∀ a, a ≠ 1 → M a = M0 a) → RG (M 1) (GF G m) → K x M) :
    ∀ (n i : Nat) (M : Mem), i ≤ m → m + 1 ≤ n + i → (∀ a, a ≠ 1 → M a = M0 a) → RG (M 1) (GF G i) → w_X7_follow_49 n (nI p) (nI i) M K := by
  intro n
  have h7 := hV.1.2
  have hp2 := p2_le h7
  have hd : G 16 < 2 ^ cor G 0 := by rw [cor_0]; exact hV.2.2.2.1
  have hS := hV.cv
  induction n with
  | zero => intro i M h1 h2; omega
  | succ n ih =>
    intro i M h1 h2 hM hR
    unfold w_X7_follow_49
    have hn : M 1 0 = nI (G 0) := by rw [hR 0 (by decide), GF_o G (by decide) (by decide) (by decide)]
    have h16 : M 1 16 = nI (sqF (cor G) (G 16) i) := by rw [hR 16 (by decide), GF_16]
    obtain ⟨q1, q2, q3, q4⟩ := sq_ok hS hd hw i (by rw [cor_0]; omega)
    have q1' := q1
    rw [cor_0] at q1'
    refine ⟨fun z => ?_, fun z => ?_⟩
    · rw [nI_leI (by omega) (by omega)] at z
      have e : i = m := by omega
      subst e
      exact hK _ M hM hR
    · rw [nI_leI (by omega) (by omega)] at z
      refine pw_all7 hn h7 ?_
      rw [h16, nI_eq (by omega) (by omega)]
      have pf := pcn_full (G 0) (by omega) _ q1'
      refine ⟨fun c => ?_, fun c => ?_⟩
      · have := pf.2.mpr c
        have e : i = m := by omega
        subst e
        exact hK _ M hM hR
      · have hlt : pcn (G 16) + i < G 0 := by
          have : pcn (sqF (cor G) (G 16) i) ≠ G 0 := fun e => c (pf.2.mp e)
          omega
        have nf := sq_nf hS hd hw (k := i) (by rw [cor_0]; omega)
        have f1 := (fs_ok hS q1 nf q3).1
        rw [cor_0] at f1
        have hTM : MTB M (cor G) (G 16) := ⟨fun d q => by rw [hM 8 (by decide)]; exact hT.1 d q, fun d q q' => by rw [hM 9 (by decide)]; exact hT.2 d q q'⟩
        refine pw_nextOf hS (by rw [cor_0]; exact hn) hTM q1 q2 nf q3 ?_
        have hu := hV.2.2.1 _ f1
        rw [nI_add, nI_clamp (by omega), hR _ (by omega), GF_o G (by omega) (by omega) (by omega), pk_sub hu]
        refine ⟨vp_in_nI (by omega) (by decide), ?_⟩
        rintro M1 e1
        have r1 : RG (M1 1) (upG (GF G i) 17 (1 - G (9 + fs (cor G) (sqF (cor G) (G 16) i)))) := by rw [e1, um_s]; exact RG_set hR 17 _
        unfold w_X7_does
        rintro M2 e2 M3 e3
        rw [r1 16 (by decide), upG_n (by decide), GF_16, bit_set _ (by omega) _ (by omega)] at e2
        have r2 : RG (M2 1) (upG (upG (GF G i) 17 (1 - G (9 + fs (cor G) (sqF (cor G) (G 16) i)))) 16 (sqF (cor G) (G 16) (i + 1))) := by rw [e2, um_s]; exact RG_set r1 16 _
        rw [r2 22 (by decide), upG_n (by decide), upG_n (by decide), nI_add] at e3
        have r3 : RG (M3 1) (GF G (i + 1)) := by rw [e3, um_s]; exact RG_set r2 22 _
        obtain ⟨p1, -⟩ := sq_ok hS hd hw (i + 1) (by rw [cor_0]; omega)
        rw [cor_0] at p1
        rw [r3 16 (by decide), GF_16]
        refine pw_many (by omega) ?_
        rintro _ rfl
        rw [nI_add]
        have im : i + 1 ≤ m := by omega
        exact ih (i + 1) M3 im (by omega) (fun a ha => by rw [e3, um_n ha, e2, um_n ha, e1, um_n ha]; exact hM a ha) r3
theorem pr_follow {MC MM : Mem} {a : Int32} (h : REL MC MM) : w_X6_follow a MC (EQA MM (w_X7_follow a)) := by
  obtain ⟨⟨G, hV, hC, hR⟩, ⟨k, H, hH, hM, hHV⟩, -⟩ := id h
  have h7 := hV.1.2
  have hp2 := p2_le h7
  have h17 : G 17 ≤ 1 := hV.2.2.2.2.1
  have hS := hV.cv
  have hd : G 16 < 2 ^ cor G 0 := by rw [cor_0]; exact hV.2.2.2.1
  have hpf := pcn_full (G 0) (by omega) _ hV.2.2.2.1
  have bad : (a < nI 1 ∨ nI 7 < a) → EQA MM (w_X7_follow a) (-1002) MC := by
    intro hb
    show w_X7_follow a MM _
    unfold w_X7_follow
    exact pw_in (fun _ => ⟨fun z => absurd rfl z, fun _ => ⟨rfl, h⟩⟩) (fun c1 c2 => absurd hb (fun z => z.elim c1 c2))
  unfold w_X6_follow
  refine ⟨fun c => bad (Or.inl c), fun c1 => ⟨fun c2 => ?_, fun c2 => bad (Or.inr (Int32.not_le.mp c2))⟩⟩
  obtain ⟨p, hp, rfl⟩ : ∃ p : Nat, (1 ≤ p ∧ p ≤ 7) ∧ a = nI p := by
    rcases nI_cases a with q | ⟨j, hj, e⟩
    · exact absurd (Int32.lt_of_lt_of_le q (by decide)) c1
    · subst e
      rw [nI_ltI hj (by decide)] at c1
      rw [nI_leI hj (by decide)] at c2
      exact ⟨j, by omega, rfl⟩
  have key : ∀ (Q : Int32 → Mem → Prop), (∀ M2, MFR MM M2 → MTB M2 (cor G) (G 16) → ((¬ nI (wS (cor G) (G 16)) = 0 → ((¬ nI (G 16) = nI (2 ^ G 0 - 1) → w_X7_know M2 (fun M10 => w_X7_follow_49 FU (nI p) (nI 0) M10 (fun y21 M22 => w_X7_many (M22 1 16) M22 (fun v24 M23 => Q v24 M23)))) ∧ (nI (G 16) = nI (2 ^ G 0 - 1) → Q (-1005) M2))) ∧ (nI (wS (cor G) (G 16)) = 0 → Q (-1004) M2))) → w_X7_follow (nI p) MM Q := by
    intro Q hQ
    unfold w_X7_follow
    refine pw_in (fun z => ?_) (fun _ _ => ⟨fun _ => ?_, fun z => absurd z (by decide)⟩)
    · rw [nI_ltI (by omega) (by decide), nI_ltI (by decide) (by omega)] at z
      omega
    · refine pw_allOrders hS (hR.rc hV) (hR 16 (by decide)) hd (fun M2 f2 t2 => ?_)
      obtain ⟨q1, q2⟩ := hQ M2 f2 t2
      refine ⟨fun z => ?_, q2⟩
      have row : M2 1 = MM 1 := f2.1 1 (by decide) (by decide)
      refine pw_all7 (by rw [row]; exact hR 0 (by decide)) h7 ?_
      rw [row, hR 16 (by decide)]
      exact q1 z
  refine pw_hasOrder hC hV h.pln (fun M1 f1 p1 => ⟨fun hw => ⟨fun _ => ?_, fun z => absurd z (by decide)⟩, fun hw => ⟨fun z => absurd rfl z, fun _ => ?_⟩⟩)
  · have hr1 := h.planC hS cor_cor f1 p1
    have hC1 : CS M1 1 G := hC.kept (f1 _ (by decide)) (f1 _ (by decide)) (f1 _ (by decide))
    have hH1 : HC M1 k H := hH.kept (fun a a1 a2 => f1 a (by omega))
    refine pw_openBends hC1.1 hC1.2.2.1 hV.d hpf.1 ?_
    have hwz : ¬ nI (wS (cor G) (G 16)) = 0 := by
      rw [nI_z (wS_lt hS hd)]; omega
    rw [nI_z (by omega)]
    refine ⟨fun z => ?_, fun z => ?_⟩
    · refine pw_record hC1 h17 hH1 (fun M2 hH2 f2 => ?_)
      have hC2 : CS M2 1 G := hC1.kept (f2 _ (by decide)) (f2 _ (by decide)) (f2 _ (by decide))
      have hP2 : PLNS M2 (cor G) := ⟨by rw [f2 31 (by decide)]; exact p1.1, p1.2.1.kept (f2 _ (by decide)) (f2 _ (by decide)) (f2 _ (by decide)), fun d q => by rw [f2 43 (by decide), f2 44 (by decide)]; exact p1.2.2 d q⟩
      rintro _ rfl
      obtain ⟨m, hm, hmp, hmin, em⟩ : ∃ m : Nat, pcn (G 16) + m ≤ G 0 ∧ m ≤ p ∧ (m = p ∨ pcn (G 16) + m = G 0) ∧ (if nI (G 0 - pcn (G 16)) < nI p then nI (G 0 - pcn (G 16)) else nI p) = nI m := by
        by_cases c : G 0 - pcn (G 16) < p
        · exact ⟨G 0 - pcn (G 16), by omega, by omega, Or.inr (by omega), if_pos (by rw [nI_ltI (by omega) (by omega)]; exact c)⟩
        · exact ⟨p, by omega, by omega, Or.inl rfl, if_neg (by rw [nI_ltI (by omega) (by omega)]; exact c)⟩
      rw [em]
      refine lq_fol62 hV hP2 hw hm (fun x M3 f3 c3 => ?_) FU 0 M2 (Nat.zero_le _) (by show _ ≤ 1000 + 0; omega) (fun _ _ => rfl) hC2
      have hVm := GF_V hV hw m hm
      obtain ⟨g1, -⟩ := sq_ok hS hd hw m (by rw [cor_0]; omega)
      rw [cor_0] at g1
      refine pw_doneBends c3.2.2.1 hVm.d ?_
      refine key _ (fun N1 e1 t1 => ⟨fun _ => ⟨fun _ => ?_, fun w => ?_⟩, fun w => absurd w hwz⟩)
      · have row : N1 1 = MM 1 := e1.1 1 (by decide) (by decide)
        have hR1 : RG (N1 1) G := by rw [row]; exact hR
        have hM1 : HM N1 k H := hM.kept (e1.2 2 (by decide)) (e1.1 2 (by decide) (by decide))
        refine pw_know hR1 hM1 (fun N2 hM2 e2 e2' => ?_)
        have hR2 : RG (N2 1) G := by rw [e2 1 (by decide) (by decide)]; exact hR1
        have t2 : MTB N2 (cor G) (G 16) := ⟨fun d q => by rw [e2 8 (by decide) (by decide)]; exact t1.1 d q, fun d q q' => by rw [e2 9 (by decide) (by decide)]; exact t1.2 d q q'⟩
        refine lq_fol49 hV t2 hw hm hmp (by omega) hmin (fun x N3 e3 r3 => ?_) FU 0 N2 (Nat.zero_le _) (by show _ ≤ 1000 + 0; omega) (fun _ _ => rfl) hR2
        rw [r3 16 (by decide), GF_16]
        refine pw_many (by omega) ⟨rfl, (hr1.planM e1).act hVm c3 r3 (hH2.kept (fun a a1 a2 => f3 a (by omega))) (hM2.kept (by rw [e3 0 (by decide)]) (e3 2 (by decide))) (push_ok hHV hM.1 hV) (fun a ha => ?_) ?_ ?_ ?_⟩
        · rw [f3 a (by omega)]; exact f2 a (by omega)
        · rw [e3 3 (by decide)]; exact e2 3 (by decide) (by decide)
        · rw [e3 4 (by decide)]; exact e2 4 (by decide) (by decide)
        · intro j hj; rw [e3 0 (by decide)]; exact e2' j hj
      · have h16 := hV.2.2.2.1
        rw [nI_eq (by omega) (by omega)] at w
        have := hpf.2.mpr w
        omega
    · refine key _ (fun N1 e1 t1 => ⟨fun _ => ⟨fun w => ?_, fun _ => ⟨rfl, hr1.planM e1⟩⟩, fun w => absurd w hwz⟩)
      have h16 := hV.2.2.2.1
      rw [nI_eq (by omega) (by omega)] at w
      exact absurd (hpf.2.mp (by omega)) w
  · refine key _ (fun N1 e1 t1 => ⟨fun w => absurd (by rw [hw]; rfl) w, fun _ => ⟨rfl, (h.planC hS cor_cor f1 p1).planM e1⟩⟩)
