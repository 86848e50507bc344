theorem pw_doneBends {M : Mem} {r d : Nat} {Q : Int32 → Mem → Prop} (hd : M r 2 = nI d) (hd2 : d < 128) (h : Q (nI (pcn d)) M) : w_X4_doneBends r M Q := by
  unfold w_X4_doneBends
  rw [hd]
  exact pw_bc hd2 h
theorem char_nar {c : Nat} (hc : c < 65536) : vp_nar .char (nI c) = nI c := by
  unfold vp_nar
  rw [(pk_charN hc).1]
theorem pr_type {MC MM : Mem} {c : Nat} (hc : c < 65536) (h : REL MC MM) : w_X6_type (nI c) MC (EQA MM (w_X7_type (nI c))) := by
  obtain ⟨⟨G, hV, hC, hR⟩, ⟨k, H, hH, hM, hHV⟩, hK, ⟨t, t1, t2, t3, t4⟩, hP⟩ := id h
  unfold w_X6_type
  rw [t2]
  refine ⟨fun e => ?_, fun e => ?_⟩
  · have ht : t < 60 := by
      rcases Nat.lt_or_ge t 60 with q | q
      · exact q
      · have e6 : t = 60 := by omega
        exact absurd (by rw [e6]) e
    unfold w_X5_append
    rw [t2, nI_clamp (by omega)]
    refine ⟨fun z => absurd z (nI_neg (by omega)), fun _ => ⟨fun z => ?_, fun _ => ⟨vp_in_nI ht (by decide), ?_⟩⟩⟩
    · rw [nI_leI (by decide) (by omega)] at z; omega
    rintro _ rfl _ rfl
    rw [um_s, upd_s, um_n (show (21 : Nat) ≠ 22 by decide), t2, nI_add]
    show w_X7_type (nI c) MM _
    unfold w_X7_type
    rw [t3, nI_clamp (by omega)]
    refine ⟨fun _ => ⟨vp_in_nI ht (by decide), ?_⟩, fun z => absurd z e⟩
    rintro _ rfl _ rfl
    rw [um_s, upd_s, um_n (show (0 : Nat) ≠ 4 by decide), t3, nI_add, char_nar hc]
    have ck : ∀ a, a ≠ 21 → a ≠ 22 → um (um MC 22 (upd (MC 22) t (nI c))) 21 (upd (MC 21) 0 (nI (t + 1))) a = MC a := fun a a1 a2 => by rw [um_n a1, um_n a2]
    have mk : ∀ a, a ≠ 0 → a ≠ 4 → um (um MM 4 (upd (MM 4) t (nI c))) 0 (upd (MM 0) 6 (nI (t + 1))) a = MM a := fun a a1 a2 => by rw [um_n a1, um_n a2]
    refine ⟨rfl, ⟨G, hV, hC.kept (ck _ (by decide) (by decide)) (ck _ (by decide) (by decide)) (ck _ (by decide) (by decide)), by rw [mk 1 (by decide) (by decide)]; exact hR⟩, ⟨k, H, hH.kept (fun a a1 a2 => ck a (by omega) (by omega)), ?_, hHV⟩, ?_, ⟨t + 1, by omega, by rw [um_s, upd_s], by rw [um_s, upd_s], fun i hi => ?_⟩, hP.kept (ck _ (by decide) (by decide)) (ck _ (by decide) (by decide)) (ck _ (by decide) (by decide)) (ck _ (by decide) (by decide)) (ck _ (by decide) (by decide)) (ck _ (by decide) (by decide))⟩
    · obtain ⟨m1, m2, m3⟩ := hM
      exact ⟨m1, by rw [um_s, upd_n (by decide)]; exact m2, fun j hj i hi => by rw [mk 2 (by decide) (by decide)]; exact m3 j hj i hi⟩
    · unfold KP
      rw [ck 0 (by decide) (by decide), um_s, upd_n (show (4 : Nat) ≠ 6 by decide), mk 3 (by decide) (by decide)]
      rcases hK with hK | ⟨h1, h2, G, h3, h4, h5⟩
      · exact Or.inl hK
      · exact Or.inr ⟨h1, h2, G, h3, h4.kept (ck _ (by decide) (by decide)) (ck _ (by decide) (by decide)) (ck _ (by decide) (by decide)), h5⟩
    · rw [um_n (show (22 : Nat) ≠ 21 by decide), um_s, um_n (show (4 : Nat) ≠ 0 by decide), um_s, upd_a, upd_a]
      by_cases ei : i = t
      · rw [if_pos ei, if_pos ei]; exact ⟨c, hc, rfl, rfl⟩
      · rw [if_neg ei, if_neg ei]; exact t4 i (by omega)
  · show w_X7_type (nI c) MM _
    unfold w_X7_type
    rw [t3]
    exact ⟨fun z => absurd e z, fun _ => ⟨rfl, h⟩⟩
theorem lq_keep2 {M0 : Mem} {K : Int32 → Mem → Prop} (h : ∀ M : Mem, (∀ a, a ≠ 3 → M a = M0 a) → (∀ i, i < 23 → M 3 i = M0 1 i) → K (nI 23) M) :
    ∀ (n j : Nat) (M : Mem), j ≤ 23 → 24 ≤ n + j → (∀ a, a ≠ 3 → M a = M0 a) → (∀ i, i < j → M 3 i = M0 1 i) → w_X7_keep_2 n (nI j) M K := by
  intro n
  induction n with
  | zero => intro j M h1 h2; omega
  | succ n ih =>
    intro j M h1 h2 hM hd
    unfold w_X7_keep_2
    rw [nI_clamp (by omega), hM 1 (by decide)]
    refine ⟨fun c => ?_, fun c => ?_⟩
    · rw [nI_leI (by decide) (by omega)] at c
      have e : j = 23 := by omega
      subst e
      exact h M hM hd
    · rw [nI_leI (by decide) (by omega)] at c
      refine ⟨vp_in_nI (by omega) (by decide), vp_in_nI (by omega) (by decide), ?_⟩
      rintro _ rfl _ rfl
      rw [nI_add]
      refine ih (j + 1) _ (by omega) (by omega) (fun a ha => by rw [um_n ha]; exact hM a ha) (fun i hi => ?_)
      rw [um_s, upd_a]
      by_cases ci : i = j
      · subst ci; rw [if_pos rfl]
      · rw [if_neg ci]; exact hd i (by omega)
theorem lq_rest17 {M0 : Mem} {K : Int32 → Mem → Prop} (h : ∀ M : Mem, (∀ a, a ≠ 1 → M a = M0 a) → (∀ i, i < 23 → M 1 i = M0 3 i) → K (nI 23) M) :
    ∀ (n j : Nat) (M : Mem), j ≤ 23 → 24 ≤ n + j → (∀ a, a ≠ 1 → M a = M0 a) → (∀ i, i < j → M 1 i = M0 3 i) → w_X7_restore_17 n (nI j) M K := by
  intro n
  induction n with
  | zero => intro j M h1 h2; omega
  | succ n ih =>
    intro j M h1 h2 hM hd
    unfold w_X7_restore_17
    rw [nI_clamp (by omega), hM 3 (by decide)]
    refine ⟨fun c => ?_, fun c => ?_⟩
    · rw [nI_leI (by decide) (by omega)] at c
      have e : j = 23 := by omega
      subst e
      exact h M hM hd
    · rw [nI_leI (by decide) (by omega)] at c
      refine ⟨vp_in_nI (by omega) (by decide), vp_in_nI (by omega) (by decide), ?_⟩
      rintro _ rfl _ rfl
      rw [nI_add]
      refine ih (j + 1) _ (by omega) (by omega) (fun a ha => by rw [um_n ha]; exact hM a ha) (fun i hi => ?_)
      rw [um_s, upd_a]
      by_cases ci : i = j
      · subst ci; rw [if_pos rfl]
      · rw [if_neg ci]; exact hd i (by omega)
theorem lq_undo23 {M0 : Mem} {k : Nat} {K : Int32 → Mem → Prop} (hk : k ≤ 3) (h0 : M0 0 2 = nI k) (h : ∀ M : Mem, (∀ a, a ≠ 1 → M a = M0 a) → (∀ i, i < 23 → M 1 i = M0 2 (23 * k + i)) → K (nI 23) M) :
    ∀ (n j : Nat) (M : Mem), j ≤ 23 → 24 ≤ n + j → (∀ a, a ≠ 1 → M a = M0 a) → (∀ i, i < j → M 1 i = M0 2 (23 * k + i)) → w_X7_undo_23 n (nI j) M K := by
  intro n
  induction n with
  | zero => intro j M h1 h2; omega
  | succ n ih =>
    intro j M h1 h2 hM hd
    unfold w_X7_undo_23
    rw [hM 0 (by decide), hM 2 (by decide), h0, pk_mul, nI_add, nI_clamp (by omega), nI_clamp (by omega)]
    refine ⟨fun c => ?_, fun c => ?_⟩
    · rw [nI_leI (by decide) (by omega)] at c
      have e : j = 23 := by omega
      subst e
      exact h M hM hd
    · rw [nI_leI (by decide) (by omega)] at c
      refine ⟨vp_in_nI (by omega) (by decide), vp_in_nI (by omega) (by decide), ?_⟩
      rintro _ rfl _ rfl
      rw [nI_add]
      refine ih (j + 1) _ (by omega) (by omega) (fun a ha => by rw [um_n ha]; exact hM a ha) (fun i hi => ?_)
      rw [um_s, upd_a]
      by_cases ci : i = j
      · subst ci; rw [if_pos rfl]
      · rw [if_neg ci]; exact hd i (by omega)
theorem pr_keep {MC MM : Mem} (h : REL MC MM) : w_X6_keep MC (EQA MM w_X7_keep) := by
  obtain ⟨⟨G, hV, hC, hR⟩, ⟨k, H, hH, hM, hHV⟩, hK, hT, hP⟩ := id h
  unfold w_X6_keep
  refine pw_copyFrom (by decide) hC hV.2.2.2.2.1 (fun M1 c4 c1 f1 _ => ?_)
  rintro _ rfl
  have ck : ∀ a, a ≠ 0 → um M1 0 (upd (M1 0) 2 (nI 1)) a = M1 a := fun a a0 => um_n a0
  refine pw_doneBends (by rw [ck 1 (by decide)]; exact c1.2.2.1) hV.d ?_
  show w_X7_keep MM _
  unfold w_X7_keep
  refine lq_keep2 (M0 := MM) (fun M2 g1 g2 => ?_) FU 0 MM (by decide) (by decide) (fun _ _ => rfl) (fun i hi => by omega)
  rintro _ rfl
  have mk : ∀ a, a ≠ 0 → um M2 0 (upd (M2 0) 4 (nI 1)) a = M2 a := fun a a0 => um_n a0
  rw [mk 1 (by decide), g1 1 (by decide), hR 16 (by decide)]
  refine pw_many hV.d ⟨rfl, ⟨G, hV, c1.kept (ck _ (by decide)) (ck _ (by decide)) (ck _ (by decide)), by rw [mk 1 (by decide), g1 1 (by decide)]; exact hR⟩, ⟨k, H, hH.kept (fun a a1 a2 => by rw [ck a (by omega)]; exact f1 a (by omega) (by omega) (by omega)), ?_, hHV⟩, ?_, ?_, hP.kept ?_ ?_ ?_ ?_ ?_ ?_⟩
  · obtain ⟨m1, m2, m3⟩ := hM
    exact ⟨m1, by rw [um_s, upd_n (by decide), g1 0 (by decide)]; exact m2, fun j hj i hi => by rw [mk 2 (by decide), g1 2 (by decide)]; exact m3 j hj i hi⟩
  · refine Or.inr ⟨by rw [um_s, upd_s], by rw [um_s, upd_s], G, hV, c4.kept (ck _ (by decide)) (ck _ (by decide)) (ck _ (by decide)), ?_⟩
    rw [mk 3 (by decide)]
    intro i hi
    rw [g2 i hi]
    exact hR i hi
  · unfold TX
    rw [ck 21 (by decide), ck 22 (by decide), f1 21 (by decide) (by decide) (by decide), f1 22 (by decide) (by decide) (by decide), mk 4 (by decide), g1 4 (by decide), um_s, upd_n (show (6 : Nat) ≠ 4 by decide), g1 0 (by decide)]
    exact hT
  all_goals (rw [ck _ (by decide)]; exact f1 _ (by decide) (by decide) (by decide))
theorem pr_undo {MC MM : Mem} (h : REL MC MM) : w_X6_undo MC (EQA MM w_X7_undo) := by
  obtain ⟨⟨G, hV, hC, hR⟩, ⟨k, H, hH, hM, hHV⟩, hK, hT, hP⟩ := id h
  obtain ⟨hk, h7, q, hq, hi, hc⟩ := id hH
  obtain ⟨m1, m2, m3⟩ := id hM
  unfold w_X6_undo
  rw [h7]
  refine ⟨fun e => ?_, fun e => ?_⟩
  · have hk1 : 1 ≤ k := by
      rcases (show k = 0 ∨ 1 ≤ k by omega) with z | z
      · rw [z] at e; exact absurd rfl e
      · exact z
    unfold w_X0_takeBack
    rw [h7, pk_sub hk1]
    refine pw_rowAt (by omega) ?_
    have hb := isR_lt (hq (k - 1) (by omega)).1
    rw [(hq (k - 1) (by omega)).2, nI_clamp (by omega)]
    refine ⟨⟨nI_neg (by omega), isS_R (hq (k - 1) (by omega)).1⟩, ?_⟩
    have hVk := hHV (k - 1) (by omega)
    refine pw_copyFrom (by omega) (hc (k - 1) (by omega)) hVk.2.2.2.2.1 (fun M1 c1 cq f1 _ => ?_)
    rintro _ rfl
    have ck : ∀ a, a ≠ 7 → um M1 7 (upd (M1 7) 0 (M1 7 0 - nI 1)) a = M1 a := fun a a0 => um_n a0
    rw [um_s, upd_s, f1 7 (by decide) (by decide) (by decide), h7, pk_sub hk1]
    show w_X7_undo MM _
    unfold w_X7_undo
    rw [m2]
    refine ⟨fun _ => ?_, fun z => absurd z e⟩
    rintro _ rfl
    rw [pk_sub hk1]
    refine lq_undo23 (k := k - 1) (by omega) (by rw [um_s, upd_s]) (fun M2 g1 g2 => ?_) FU 0 _ (by decide) (by decide) (fun _ _ => rfl) (fun i hi => by omega)
    rw [g1 0 (by decide), um_s, upd_s]
    have mk : ∀ a, a ≠ 0 → a ≠ 1 → M2 a = MM a := fun a a0 a1 => by rw [g1 a a1, um_n a0]
    have fk : ∀ a, a = 0 ∨ 4 ≤ a → a ≠ 7 → um M1 7 (upd (MC 7) 0 (nI (k - 1))) a = MC a := fun a a0 a7 => by rw [um_n a7]; exact f1 a (by omega) (by omega) (by omega)
    refine ⟨rfl, h.act (G' := H (k - 1)) (k' := k - 1) (H' := H) hVk (c1.kept (um_n (by decide)) (um_n (by decide)) (um_n (by decide))) (fun i hi => ?_) ⟨by omega, by rw [um_s, upd_s], q, fun j hj => ⟨(hq j hj).1, by rw [fk 8 (by omega) (by decide)]; exact (hq j hj).2⟩, hi, fun j hj => ?_⟩ ⟨by omega, ?_, fun j hj i hi => ?_⟩ (fun j hj => hHV j (by omega)) (fun a ha => fk a (by omega) (by omega)) (mk 3 (by decide) (by decide)) (mk 4 (by decide) (by decide)) (fun j hj => ?_)⟩
    · rw [g2 i hi, um_n (by decide)]
      exact m3 (k - 1) (by omega) i hi
    · have hbj := isR_lt (hq j (by omega)).1
      exact (hc j (by omega)).kept (fk _ (by omega) (by omega)) (fk _ (by omega) (by omega)) (fk _ (by omega) (by omega))
    · rw [g1 0 (by decide), um_s, upd_s]
    · rw [mk 2 (by decide) (by decide)]; exact m3 j (by omega) i hi
    · rw [g1 0 (by decide), um_s, upd_n hj]
  · have ek : k = 0 := (nI_z (by omega)).mp e
    show w_X7_undo MM _
    unfold w_X7_undo
    rw [m2]
    exact ⟨fun z => absurd e z, fun _ => ⟨rfl, h⟩⟩
theorem pr_restore {MC MM : Mem} (h : REL MC MM) : w_X6_restore MC (EQA MM w_X7_restore) := by
  obtain ⟨⟨G, hV, hC, hR⟩, ⟨k, H, hH, hM, hHV⟩, hK, hT, hP⟩ := id h
  unfold w_X6_restore
  rcases hK with ⟨k1, k2⟩ | ⟨k1, k2, G4, hV4, hC4, hR4⟩
  · rw [k1]
    refine ⟨fun e => absurd rfl e, fun _ => ?_⟩
    show w_X7_restore MM _
    unfold w_X7_restore
    rw [k2]
    exact ⟨fun e => absurd rfl e, fun _ => ⟨rfl, h⟩⟩
  · rw [k1]
    refine ⟨fun _ => ?_, fun e => absurd e (by decide)⟩
    refine pw_record hC hV.2.2.2.2.1 hH (fun M1 hH1 f1 => ?_)
    have hC41 : CS M1 4 G4 := hC4.kept (f1 _ (by decide)) (f1 _ (by decide)) (f1 _ (by decide))
    refine pw_copyFrom (by decide) hC41 hV4.2.2.2.2.1 (fun M2 c1 c4 f2 _ => ?_)
    refine pw_doneBends c1.2.2.1 hV4.d ?_
    show w_X7_restore MM _
    unfold w_X7_restore
    rw [k2]
    refine ⟨fun _ => ?_, fun e => absurd e (by decide)⟩
    refine pw_know hR hM (fun M3 hM3 g1 g2 => ?_)
    refine lq_rest17 (M0 := M3) (fun M4 e1 e2 => ?_) FU 0 M3 (by decide) (by decide) (fun _ _ => rfl) (fun i hi => by omega)
    have hR1 : RG (M4 1) G4 := fun i hi => by rw [e2 i hi, g1 3 (by decide) (by decide)]; exact hR4 i hi
    rw [hR1 16 (by decide)]
    refine pw_many hV4.d ⟨rfl, h.act (G' := G4) hV4 c1 hR1 (hH1.kept (fun a a1 a2 => f2 a (by omega) (by omega) (by omega))) ?_ (push_ok hHV hM.1 hV) (fun a ha => ?_) ?_ ?_ ?_⟩
    · obtain ⟨m1, m2, m3⟩ := hM3
      exact ⟨m1, by rw [e1 0 (by decide)]; exact m2, fun j hj i hi => by rw [e1 2 (by decide)]; exact m3 j hj i hi⟩
    · rw [f2 a (by omega) (by omega) (by omega)]; exact f1 a (by omega)
    · rw [e1 3 (by decide)]; exact g1 3 (by decide) (by decide)
    · rw [e1 4 (by decide)]; exact g1 4 (by decide) (by decide)
    · intro j hj; rw [e1 0 (by decide)]; exact g2 j hj
