/-! the calls that change little: both sides answer alike -/
def upG (G : Nat → Nat) (i v : Nat) : Nat → Nat := fun j => if j = i then v else G j
theorem upG_s (G : Nat → Nat) (i v : Nat) : upG G i v i = v := if_pos rfl
theorem upG_n {G : Nat → Nat} {i j v : Nat} (h : j ≠ i) : upG G i v j = G j := if_neg h
theorem RG_set {row : Nat → Int32} {G : Nat → Nat} (h : RG row G) (i v : Nat) : RG (upd row i (nI v)) (upG G i v) := by
  intro j hj
  rw [upd_a]
  unfold upG
  by_cases e : j = i
  · rw [if_pos e, if_pos e]
  · rw [if_neg e, if_neg e]; exact h j hj
theorem CS_over {M : Mem} {G : Nat → Nat} (h : CS M 1 G) (v : Nat) : CS (um M 1 (upd (M 1) 3 (nI v))) 1 (upG G 17 v) := by
  obtain ⟨h0, ⟨u, hu, hu2, hu3⟩, h2, h3, h4, h5, h6⟩ := h
  refine ⟨?_, ⟨u, ?_, hu2, fun b hb => ?_⟩, ?_, ?_, ?_, fun f hf => ?_, fun k hk => ?_⟩
  · rw [um_s, upd_n (by decide), upG_n (by decide)]; exact h0
  · rw [um_s, upd_n (by decide)]; exact hu
  · rw [upG_n (by decide), upG_n (by omega)]; exact hu3 b hb
  · rw [um_s, upd_n (by decide), upG_n (by decide)]; exact h2
  · rw [um_s, upd_s, upG_s]
  · rw [um_s, upd_n (by decide), upG_n (by decide)]; exact h4
  · rw [um_n (by decide), upG_n (by omega)]; exact h5 f hf
  · rw [um_n (by decide), upG_n (by omega)]; exact h6 k hk
theorem CS_done {M : Mem} {G : Nat → Nat} (h : CS M 1 G) (v : Nat) : CS (um M 1 (upd (M 1) 2 (nI v))) 1 (upG G 16 v) := by
  obtain ⟨h0, ⟨u, hu, hu2, hu3⟩, h2, h3, h4, h5, h6⟩ := h
  refine ⟨?_, ⟨u, ?_, hu2, fun b hb => ?_⟩, ?_, ?_, ?_, fun f hf => ?_, fun k hk => ?_⟩
  · rw [um_s, upd_n (by decide), upG_n (by decide)]; exact h0
  · rw [um_s, upd_n (by decide)]; exact hu
  · rw [upG_n (by decide), upG_n (by omega)]; exact hu3 b hb
  · rw [um_s, upd_s, upG_s]
  · rw [um_s, upd_n (by decide), upG_n (by decide)]; exact h3
  · rw [um_s, upd_n (by decide), upG_n (by decide)]; exact h4
  · rw [um_n (by decide), upG_n (by omega)]; exact h5 f hf
  · rw [um_n (by decide), upG_n (by omega)]; exact h6 k hk
theorem CS_bdg {M : Mem} {G : Nat → Nat} (h : CS M 1 G) (v : Nat) : CS (um M 1 (upd (M 1) 4 (nI v))) 1 (upG G 22 v) := by
  obtain ⟨h0, ⟨u, hu, hu2, hu3⟩, h2, h3, h4, h5, h6⟩ := h
  refine ⟨?_, ⟨u, ?_, hu2, fun b hb => ?_⟩, ?_, ?_, ?_, fun f hf => ?_, fun k hk => ?_⟩
  · rw [um_s, upd_n (by decide), upG_n (by decide)]; exact h0
  · rw [um_s, upd_n (by decide)]; exact hu
  · rw [upG_n (by decide), upG_n (by omega)]; exact hu3 b hb
  · rw [um_s, upd_n (by decide), upG_n (by decide)]; exact h2
  · rw [um_s, upd_n (by decide), upG_n (by decide)]; exact h3
  · rw [um_s, upd_s, upG_s]
  · rw [um_n (by decide), upG_n (by omega)]; exact h5 f hf
  · rw [um_n (by decide), upG_n (by omega)]; exact h6 k hk
theorem CS_len {M : Mem} {G : Nat → Nat} (h : CS M 1 G) (f v : Nat) (hf8 : f < 8) : CS (um M 2 (upd (M 2) f (nI v))) 1 (upG G (1 + f) v) := by
  obtain ⟨h0, ⟨u, hu, hu2, hu3⟩, h2, h3, h4, h5, h6⟩ := h
  refine ⟨?_, ⟨u, ?_, hu2, fun b hb => ?_⟩, ?_, ?_, ?_, fun g hg => ?_, fun k hk => ?_⟩
  · rw [um_n (by decide), upG_n (by omega)]; exact h0
  · rw [um_n (by decide)]; exact hu
  · rw [upG_n (by omega), upG_n (by omega)]; exact hu3 b hb
  · rw [um_n (by decide), upG_n (by omega)]; exact h2
  · rw [um_n (by decide), upG_n (by omega)]; exact h3
  · rw [um_n (by decide), upG_n (by omega)]; exact h4
  · rw [um_s, upd_a]
    by_cases e : g = f
    · subst e; rw [if_pos rfl, upG_s]
    · rw [if_neg e, upG_n (by omega)]; exact h5 g hg
  · rw [um_n (by decide), upG_n (by omega)]; exact h6 k hk
theorem CS_set {M : Mem} {G : Nat → Nat} (h : CS M 1 G) (k v : Nat) (hk4 : k < 4) : CS (um M 3 (upd (M 3) k (nI v))) 1 (upG G (18 + k) v) := by
  obtain ⟨h0, ⟨u, hu, hu2, hu3⟩, h2, h3, h4, h5, h6⟩ := h
  refine ⟨?_, ⟨u, ?_, hu2, fun b hb => ?_⟩, ?_, ?_, ?_, fun g hg => ?_, fun j hj => ?_⟩
  · rw [um_n (by decide), upG_n (by omega)]; exact h0
  · rw [um_n (by decide)]; exact hu
  · rw [upG_n (by omega), upG_n (by omega)]; exact hu3 b hb
  · rw [um_n (by decide), upG_n (by omega)]; exact h2
  · rw [um_n (by decide), upG_n (by omega)]; exact h3
  · rw [um_n (by decide), upG_n (by omega)]; exact h4
  · rw [um_n (by decide), upG_n (by omega)]; exact h5 g hg
  · rw [um_s, upd_a]
    by_cases e : j = k
    · subst e; rw [if_pos rfl, upG_s]
    · rw [if_neg e, upG_n (by omega)]; exact h6 j hj
theorem REL.act {MC MM MC' MM' : Mem} {G' : Nat → Nat} {k' : Nat} {H' : Nat → Nat → Nat} (h : REL MC MM) (hV : VG G') (hC : CS MC' 1 G') (hR : RG (MM' 1) G') (hH : HC MC' k' H') (hM : HM MM' k' H') (hHV : ∀ j, j < k' → VG (H' j))
    (fC : ∀ a, a = 0 ∨ (4 ≤ a ∧ a ≤ 6) ∨ 20 < a → MC' a = MC a) (f3 : MM' 3 = MM 3) (f4 : MM' 4 = MM 4) (f0 : ∀ j, j ≠ 2 → MM' 0 j = MM 0 j) : REL MC' MM' := by
  obtain ⟨-, -, hK, hT, hP⟩ := h
  refine ⟨⟨G', hV, hC, hR⟩, ⟨k', H', hH, hM, hHV⟩, ?_, ?_, hP.kept (fC _ (by decide)) (fC _ (by decide)) (fC _ (by decide)) (fC _ (by decide)) (fC _ (by decide)) (fC _ (by decide))⟩
  · unfold KP
    rw [fC 0 (by decide), f0 4 (by decide), f3]
    rcases hK with hK | ⟨h1, h2, G, h3, h4, h5⟩
    · exact Or.inl hK
    · exact Or.inr ⟨h1, h2, G, h3, h4.kept (fC _ (by decide)) (fC _ (by decide)) (fC _ (by decide)), h5⟩
  · unfold TX
    rw [fC 21 (by decide), fC 22 (by decide), f0 6 (by decide), f4]
    exact hT
theorem push_ok {k : Nat} {H : Nat → Nat → Nat} {G : Nat → Nat} (hH : ∀ j, j < k → VG (H j)) (hk : k ≤ 4) (hG : VG G) : ∀ j, j < pK k → VG (pH k H G j) := by
  intro j hj
  unfold pK at hj
  unfold pH
  by_cases c : k < 4
  · rw [if_pos c] at hj ⊢
    by_cases e : j = k
    · rw [if_pos e]; exact hG
    · rw [if_neg e]; exact hH j (by omega)
  · rw [if_neg c] at hj ⊢
    by_cases e : j = 3
    · rw [if_pos e]; exact hG
    · rw [if_neg e]; exact hH _ (by omega)
theorem pw_asNumber {M : Mem} {j : Nat} {Q : Int32 → Mem → Prop} (hj : j ≤ 1) (h : Q (nI j) M) : w_X6_asNumber (nI j) M Q := by
  unfold w_X6_asNumber
  rcases (show j = 0 ∨ j = 1 by omega) with rfl | rfl
  · exact ⟨fun _ => h, fun c => absurd rfl c⟩
  · exact ⟨fun c => absurd c (by decide), fun _ => h⟩
/-- an answer of both sides -/
abbrev EQA (MM : Mem) (w : Mem → (Int32 → Mem → Prop) → Prop) : Int32 → Mem → Prop := fun v MC' => w MM (fun v' MM' => v = v' ∧ REL MC' MM')
theorem pr_lengthOf {MC MM : Mem} {a : Int32} (h : REL MC MM) : w_X6_lengthOf a MC (EQA MM (w_X7_lengthOf a)) := by
  obtain ⟨⟨G, hV, hC, hR⟩, -⟩ := id h
  have h7 := hV.1.2
  unfold w_X6_lengthOf
  refine pw_hasFlange hC.1 h7 (fun hno => ⟨fun c => absurd rfl c, fun _ => ?_⟩) (fun b hb e => ⟨fun _ => ?_, fun c => absurd c (by decide)⟩)
  · show w_X7_lengthOf a MM _
    unfold w_X7_lengthOf
    exact pw_isFlange (hR 0 (by decide)) h7 (fun _ => ⟨fun _ => ⟨rfl, h⟩, fun c => absurd rfl c⟩) (fun b hb e => absurd e (hno b hb))
  · subst e
    refine pw_lengthAt (by omega) ?_
    show w_X7_lengthOf _ MM _
    unfold w_X7_lengthOf
    refine pw_isFlange (hR 0 (by decide)) h7 (fun hno => absurd rfl (hno b hb)) (fun _ _ _ => ⟨fun c => absurd c (by decide), fun _ => ?_⟩)
    rw [nI_add, nI_clamp (by omega)]
    exact ⟨vp_in_nI (by omega) (by decide), by rw [hC.2.2.2.2.2.1 b (by omega), hR _ (by omega)], h⟩
theorem pr_layOver {MC MM : Mem} (h : REL MC MM) : w_X6_layOver MC (EQA MM w_X7_layOver) := by
  obtain ⟨⟨G, hV, hC, hR⟩, ⟨k, H, hH, hM, hHV⟩, -⟩ := id h
  unfold w_X6_layOver
  have h17 : G 17 ≤ 1 := hV.2.2.2.2.1
  refine pw_record hC h17 hH (fun M1 hH1 f1 => ?_)
  have hC1 : CS M1 1 G := hC.kept (f1 _ (by decide)) (f1 _ (by decide)) (f1 _ (by decide))
  rw [hC1.2.2.2.1]
  have key : ∀ v, v = 1 - G 17 → EQA MM w_X7_layOver (nI v) (um M1 1 (upd (M1 1) 3 (nI v))) := by
    intro v hv
    show w_X7_layOver MM _
    unfold w_X7_layOver
    refine pw_know hR hM (fun M2 hM2 g1 g2 => ?_)
    rintro _ rfl
    rw [um_s, upd_s, g1 1 (by decide) (by decide), hR 17 (by decide), pk_sub h17, ← hv]
    refine ⟨rfl, h.act (G' := upG G 17 v) ?_ (CS_over hC1 v) ?_ (hH1.kept (fun a a1 a2 => um_n (by omega))) ?_ (push_ok hHV hM.1 hV) (fun a ha => ?_) ?_ ?_ ?_⟩
    · obtain ⟨v1, v2, v3, v4, v5, v6, v7, v8, v9⟩ := hV
      refine ⟨v1, fun f hf => ?_, fun b hb => ?_, v4, ?_, v6, v7, v8, v9⟩
      · rw [show upG G 17 v 0 = G 0 from rfl] at hf
        rw [upG_n (by omega)]; exact v2 f hf
      · rw [show upG G 17 v 0 = G 0 from rfl] at hb
        rw [upG_n (by omega)]; exact v3 b hb
      · rw [upG_s]; omega
    · rw [um_s]; exact RG_set hR 17 v
    · obtain ⟨m1, m2, m3⟩ := hM2
      exact ⟨m1, by rw [um_n (by decide)]; exact m2, fun j hj i hi => by rw [um_n (by decide)]; exact m3 j hj i hi⟩
    · rw [um_n (by omega)]; exact f1 a (by omega)
    · rw [um_n (by decide)]; exact g1 3 (by decide) (by decide)
    · rw [um_n (by decide)]; exact g1 4 (by decide) (by decide)
    · intro j hj; rw [um_n (by decide)]; exact g2 j hj
  refine ⟨fun c => ?_, fun c => ?_⟩
  · have e1 : G 17 = 1 := by
      rcases (show G 17 = 0 ∨ G 17 = 1 by omega) with e | e
      · rw [e] at c; exact absurd rfl c
      · exact e
    rintro _ rfl
    rw [um_s, upd_s]
    exact pw_asNumber (by decide) (key 0 (by rw [e1]))
  · have e1 : G 17 = 0 := (nI_z (by omega)).mp c
    rintro _ rfl
    rw [um_s, upd_s]
    exact pw_asNumber (by decide) (key 1 (by rw [e1]))
theorem pr_clearText {MC MM : Mem} (h : REL MC MM) : w_X6_clearText MC (EQA MM w_X7_clearText) := by
  obtain ⟨⟨G, hV, hC, hR⟩, ⟨k, H, hH, hM, hHV⟩, hK, ⟨t, t1, t2, t3, t4⟩, hP⟩ := id h
  unfold w_X6_clearText
  rintro _ rfl _ rfl
  show w_X7_clearText MM _
  unfold w_X7_clearText
  rintro _ rfl _ rfl
  refine ⟨by rw [t2, t3], ⟨G, hV, hC.kept (um_n (by decide)) (um_n (by decide)) (um_n (by decide)), by rw [um_n (by decide)]; exact hR⟩, ⟨k, H, hH.kept (fun a a1 a2 => um_n (by omega)), ?_, hHV⟩, ?_, ⟨0, by decide, by rw [um_s, upd_s], by rw [um_s, upd_s], fun i hi => by omega⟩, hP.kept (um_n (by decide)) (um_n (by decide)) (um_n (by decide)) (um_n (by decide)) (um_n (by decide)) (um_n (by decide))⟩
  · obtain ⟨m1, m2, m3⟩ := hM
    exact ⟨m1, by rw [um_s, upd_n (by decide)]; exact m2, fun j hj i hi => by rw [um_n (by decide)]; exact m3 j hj i hi⟩
  · unfold KP
    rw [um_n (show (0 : Nat) ≠ 21 by decide), um_s, upd_n (show (4 : Nat) ≠ 6 by decide), um_n (show (3 : Nat) ≠ 0 by decide)]
    rcases hK with hK | ⟨h1, h2, G, h3, h4, h5⟩
    · exact Or.inl hK
    · exact Or.inr ⟨h1, h2, G, h3, h4.kept (um_n (by decide)) (um_n (by decide)) (um_n (by decide)), h5⟩
