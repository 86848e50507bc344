/-! pairs: orders, order, count -/
theorem nI_gt0 {w : Nat} (h : w < 2 ^ 31) : (nI w ≤ 0) = (w = 0) := propext (nI_le0 h)
theorem pw_hasOrder {M : Mem} {G : Nat → Nat} {Q : Int32 → Mem → Prop} (hC : CS M 1 G) (hV : VG G) (hP : PLN M) (hQ : ∀ M', (∀ a, a ≤ 30 → M' a = M a) → PLNS M' (cor G) → (0 < wS (cor G) (G 16) → Q (nI 1) M') ∧ (wS (cor G) (G 16) = 0 → Q (nI 0) M')) : w_X6_hasOrder M Q := by
  unfold w_X6_hasOrder
  refine pw_prepare hC hV hP (fun M1 f1 p1 => ?_)
  have hd : G 16 < 2 ^ cor G 0 := by rw [cor_0]; exact hV.2.2.2.1
  rw [f1 1 (by decide), hC.2.2.1]
  refine pw_waysFrom hV.d ?_
  rw [(p1.2.2 _ hd).1, nI_gt0 (wS_lt hV.cv hd)]
  obtain ⟨h1, h0⟩ := hQ M1 f1 p1
  exact ⟨fun z => h0 z, fun z => h1 (by omega)⟩
theorem REL.planC {MC MM MC' : Mem} {S : Nat → Nat} (h : REL MC MM) (hS : CV S) (hc : cor S = S) (f : ∀ a, a ≤ 30 → MC' a = MC a) (p : PLNS MC' S) : REL MC' MM :=
  h.work (fun a ha => f a (by omega)) (p.pln hS hc) (fun _ _ _ => rfl) (fun _ _ => rfl)
theorem REL.planM {MC MM MM' : Mem} (h : REL MC MM) (f : MFR MM MM') : REL MC MM' := h.work (fun _ _ => rfl) h.pln f.1 f.2
theorem pr_orders {MC MM : Mem} (h : REL MC MM) : w_X6_orders MC (EQA MM w_X7_orders) := by
  obtain ⟨⟨G, hV, hC, hR⟩, -⟩ := id h
  have hd : G 16 < 2 ^ cor G 0 := by rw [cor_0]; exact hV.2.2.2.1
  unfold w_X6_orders
  refine pw_prepare hC hV h.pln (fun M1 f1 p1 => ?_)
  rw [f1 1 (by decide), hC.2.2.1]
  refine pw_waysFrom hV.d ?_
  rw [(p1.2.2 _ hd).1]
  show w_X7_orders MM _
  unfold w_X7_orders
  exact pw_allOrders hV.cv (hR.rc hV) (hR 16 (by decide)) hd (fun M2 f2 t2 => ⟨rfl, (h.planC hV.cv cor_cor f1 p1).planM f2⟩)
/-- the sets along the first order -/
def sqF (S : Nat → Nat) (d : Nat) : Nat → Nat
  | 0 => d
  | k + 1 => sqF S d k ||| 2 ^ fs S (sqF S d k)
theorem sq_ok {S : Nat → Nat} {d : Nat} (hS : CV S) (hd : d < 2 ^ S 0) (hw : 0 < wS S d) : ∀ k, pcn d + k ≤ S 0 → sqF S d k < 2 ^ S 0 ∧ sqF S d k &&& d = d ∧ 0 < wS S (sqF S d k) ∧ pcn (sqF S d k) = pcn d + k := by
  intro k
  have h7 := hS.1.2
  induction k with
  | zero => intro _; exact ⟨hd, Nat.and_self d, hw, rfl⟩
  | succ k ih =>
    intro hk
    obtain ⟨h1, h2, h3, h4⟩ := ih (by omega)
    have hp := pcn_full (S 0) (by omega) _ h1
    have hf : sqF S d k ≠ 2 ^ S 0 - 1 := fun e => by
      have := hp.2.mpr e
      omega
    obtain ⟨f1, f2, f3⟩ := fs_ok hS h1 hf h3
    obtain ⟨l1, l2, l3, l4, l5⟩ := ld_facts hS h1 f1 f2
    exact ⟨l3, sub_or h2 _, l2, by show pcn (sqF S d k ||| 2 ^ fs S (sqF S d k)) = _; rw [l5, h4]; omega⟩
theorem sq_nf {S : Nat → Nat} {d k : Nat} (hS : CV S) (hd : d < 2 ^ S 0) (hw : 0 < wS S d) (hk : pcn d + k < S 0) : sqF S d k ≠ 2 ^ S 0 - 1 := by
  obtain ⟨h1, h2, h3, h4⟩ := sq_ok hS hd hw k (by omega)
  have h7 := hS.1.2
  intro e
  have := (pcn_full (S 0) (by omega) _ h1).2.mpr e
  omega
theorem sq_full {S : Nat → Nat} {d k : Nat} (hS : CV S) (hd : d < 2 ^ S 0) (hw : 0 < wS S d) (hk : pcn d + k = S 0) : sqF S d k = 2 ^ S 0 - 1 := by
  obtain ⟨h1, h2, h3, h4⟩ := sq_ok hS hd hw k (by omega)
  have h7 := hS.1.2
  exact (pcn_full (S 0) (by omega) _ h1).2.mp (by omega)
theorem pw_openBends {M : Mem} {r d n : Nat} {Q : Int32 → Mem → Prop} (hn : M r 0 = nI n) (hd : M r 2 = nI d) (hd2 : d < 128) (hle : pcn d ≤ n) (h : Q (nI (n - pcn d)) M) : w_X4_openBends r M Q := by
  unfold w_X4_openBends
  refine pw_doneBends hd hd2 ?_
  rw [hn, pk_sub hle]
  exact h
theorem lq_ord44 {M : Mem} {S : Nat → Nat} {d p : Nat} {K : Int32 → Int32 → Mem → Prop} (hP : PLNS M S) (hS : CV S) (hd : d < 2 ^ S 0) (hw : 0 < wS S d) (hp : pcn d + p ≤ S 0) (hK : ∀ x, K (nI (sqF S d p)) x M) :
    ∀ (n k : Nat), k ≤ p → p + 1 ≤ n + k → w_X6_order_44 n (nI p) (nI (sqF S d k)) (nI k) M K := by
  intro n
  have h7 := hS.1.2
  have hp2 := p2_le h7
  induction n with
  | zero => intro k h1 h2; omega
  | succ n ih =>
    intro k h1 h2
    unfold w_X6_order_44
    refine ⟨fun z => ?_, fun z => ?_⟩
    · rw [nI_leI (by omega) (by omega)] at z
      have e : k = p := by omega
      subst e
      exact hK _
    · rw [nI_leI (by omega) (by omega)] at z
      obtain ⟨q1, q2, q3, q4⟩ := sq_ok hS hd hw k (by omega)
      have nf := sq_nf hS hd hw (k := k) (by omega)
      have f1 := (fs_ok hS q1 nf q3).1
      refine pw_firstStep hP hS q1 nf q3 ?_
      rintro _ rfl _ rfl
      rw [nI_add, bit_set _ (by omega) _ (by omega)]
      exact ih (k + 1) (by omega) (by omega)
theorem lq_ord29 {M : Mem} {S : Nat → Nat} {d p : Nat} {Q : Int32 → Mem → Prop} {K : Int32 → Int32 → Mem → Prop} (hS : CV S) (hC : M 1 0 = nI (S 0)) (hT : MTB M S d) (hd : d < 2 ^ S 0) (hw : 0 < wS S d) (hp31 : p < 2 ^ 31) (hQ : pcn d + p < S 0 → Q (nI (fs S (sqF S d p))) M) (hK : S 0 ≤ pcn d + p → ∀ x y, K x y M) :
    ∀ (n k : Nat), k ≤ p → pcn d + k ≤ S 0 → 9 ≤ n + k → w_X7_order_29 n (nI p) (nI (sqF S d k)) (nI k) M Q K := by
  intro n
  have h7 := hS.1.2
  have hp2 := p2_le h7
  induction n with
  | zero => intro k h1 h2; omega
  | succ n ih =>
    intro k h1 h2 h3
    unfold w_X7_order_29
    refine pw_all7 hC h7 ?_
    obtain ⟨q1, q2, q3, q4⟩ := sq_ok hS hd hw k h2
    rw [nI_eq (by omega) (by omega)]
    refine ⟨fun z => ?_, fun nf => ?_⟩
    · have := (pcn_full (S 0) (by omega) _ q1).2.mpr z
      exact hK (by omega) _ _
    · have hlt : pcn d + k < S 0 := by
        have a := (pcn_full (S 0) (by omega) _ q1).1
        have b : pcn (sqF S d k) ≠ S 0 := fun e => nf ((pcn_full (S 0) (by omega) _ q1).2.mp e)
        omega
      have f1 := (fs_ok hS q1 nf q3).1
      refine pw_nextOf hS hC hT q1 q2 nf q3 ?_
      rw [nI_eq (by omega) (by omega)]
      refine ⟨fun c => ?_, fun c => ?_⟩
      · rintro _ rfl _ rfl
        rw [nI_add, bit_set _ (by omega) _ (by omega)]
        exact ih (k + 1) (by omega) (by omega) (by omega)
      · subst c
        exact hQ hlt
theorem pr_order {MC MM : Mem} {a : Int32} (h : REL MC MM) : w_X6_order a MC (EQA MM (w_X7_order a)) := by
  obtain ⟨⟨G, hV, hC, hR⟩, -⟩ := id h
  have hd : G 16 < 2 ^ cor G 0 := by rw [cor_0]; exact hV.2.2.2.1
  have h7 := hV.1.2
  have hS := hV.cv
  have hpc := (pcn_full (G 0) (by omega) _ hV.2.2.2.1).1
  unfold w_X6_order
  refine ⟨fun ha => ?_, fun ha => ?_⟩
  · obtain ⟨p, hp, rfl⟩ : ∃ p, p < 2 ^ 31 ∧ a = nI p := by
      rcases nI_cases a with q | q
      · exact absurd ha (Int32.not_le.mpr q)
      · exact q
    have key : ∀ (Q : Int32 → Mem → Prop), (∀ M2, MFR MM M2 → MTB M2 (cor G) (G 16) → ((¬ nI (wS (cor G) (G 16)) = 0 → w_X7_order_29 FU (nI p) (nI (G 16)) (nI 0) M2 Q (fun y14 y15 M16 => Q (-1005) M16)) ∧ (nI (wS (cor G) (G 16)) = 0 → Q (-1004) M2))) → w_X7_order (nI p) MM Q := by
      intro Q hQ
      unfold w_X7_order
      refine ⟨fun _ => ?_, fun z => absurd ha z⟩
      refine pw_allOrders hS (hR.rc hV) (hR 16 (by decide)) hd (fun M2 f2 t2 => ?_)
      obtain ⟨q1, q2⟩ := hQ M2 f2 t2
      refine ⟨fun z => ?_, q2⟩
      rintro _ rfl
      rw [f2.1 1 (by decide) (by decide), hR 16 (by decide)]
      exact q1 z
    refine pw_hasOrder hC hV h.pln (fun M1 f1 p1 => ⟨fun hw => ⟨fun _ => ?_, fun z => absurd z (by decide)⟩, fun hw => ⟨fun z => absurd rfl z, fun _ => ?_⟩⟩)
    · have hr1 := h.planC hS cor_cor f1 p1
      have hC1 : CS M1 1 G := hC.kept (f1 _ (by decide)) (f1 _ (by decide)) (f1 _ (by decide))
      refine pw_openBends hC1.1 hC1.2.2.1 hV.d hpc ?_
      have fin : ∀ (v : Int32), (pcn (G 16) + p < G 0 → v = nI (fs (cor G) (sqF (cor G) (G 16) p))) → (G 0 ≤ pcn (G 16) + p → v = -1005) → EQA MM (w_X7_order (nI p)) v M1 := by
        intro v hv1 hv2
        refine key _ (fun M2 f2 t2 => ⟨fun _ => ?_, fun z => ?_⟩)
        · have hn2 : M2 1 0 = nI (cor G 0) := by rw [f2.1 1 (by decide) (by decide), cor_0]; exact hR 0 (by decide)
          refine lq_ord29 hS hn2 t2 hd hw hp (fun q => ⟨hv1 (by rw [cor_0] at q; exact q), hr1.planM f2⟩) (fun q x y => ⟨hv2 (by rw [cor_0] at q; exact q), hr1.planM f2⟩) FU 0 (Nat.zero_le _) (by rw [cor_0]; omega) (by show 9 ≤ 1000 + 0; decide)
        · rw [nI_z (wS_lt hS hd)] at z
          omega
      rw [nI_ltI (by omega) (by omega)]
      refine ⟨fun c => ?_, fun c => fin _ (fun q => absurd c (by omega)) (fun _ => rfl)⟩
      rintro _ rfl
      rw [hC1.2.2.1]
      refine lq_ord44 p1 hS hd hw (by rw [cor_0]; omega) (fun x => ?_) FU 0 (Nat.zero_le _) (by show _ ≤ 1000 + 0; omega)
      obtain ⟨q1, q2, q3, q4⟩ := sq_ok hS hd hw p (by rw [cor_0]; omega)
      refine pw_firstStep p1 hS q1 (sq_nf hS hd hw (by rw [cor_0]; omega)) q3 ?_
      exact fin _ (fun _ => rfl) (fun q => absurd c (by omega))
    · refine key _ (fun M2 f2 t2 => ⟨fun z => absurd (by rw [hw]; rfl) z, fun _ => ⟨rfl, (h.planC hS cor_cor f1 p1).planM f2⟩⟩)
  · show w_X7_order a MM _
    unfold w_X7_order
    exact ⟨fun z => absurd z ha, fun _ => ⟨rfl, h⟩⟩
-- turnings
def ovF (S : Nat → Nat) (d v : Nat) : Nat → Nat
  | 0 => v
  | k + 1 => 1 - S (9 + fs S (sqF S d k))
def tuF (S : Nat → Nat) (d v : Nat) : Nat → Nat
  | 0 => 0
  | k + 1 => tuF S d v k + (if S (9 + fs S (sqF S d k)) = ovF S d v k then 1 else 0)
theorem ov_le {S : Nat → Nat} {d v : Nat} (hv : v ≤ 1) : ∀ k, ovF S d v k ≤ 1
  | 0 => hv
  | k + 1 => Nat.sub_le _ _
theorem lq_turnC {M : Mem} {S : Nat → Nat} {d v : Nat} {K : Int32 → Int32 → Int32 → Int32 → Mem → Prop} (hP : PLNS M S) (hS : CV S) (hd : d < 2 ^ S 0) (hw : 0 < wS S d) (hv : v ≤ 1) (hK : ∀ x1 x2 x5, K x1 x2 (nI (tuF S d v (S 0 - pcn d))) x5 M) :
    ∀ (n k : Nat), pcn d + k ≤ S 0 → S 0 + 1 ≤ n + (pcn d + k) → w_X1_turnings_14 n (nI (sqF S d k)) (nI (ovF S d v k)) (nI (2 ^ S 0 - 1)) (nI (tuF S d v k)) (nI k) M K := by
  intro n
  have h7 := hS.1.2
  have hp2 := p2_le h7
  induction n with
  | zero => intro k h1 h2; omega
  | succ n ih =>
    intro k h1 h2
    unfold w_X1_turnings_14
    obtain ⟨q1, q2, q3, q4⟩ := sq_ok hS hd hw k h1
    have fin : pcn d + k = S 0 → ∀ x1 x2 x5, K x1 x2 (nI (tuF S d v k)) x5 M := fun e x1 x2 x5 => by
      have := hK x1 x2 x5
      rw [show S 0 - pcn d = k by omega] at this
      exact this
    rw [hP.2.1.1]
    refine ⟨fun z => ?_, fun z => ?_⟩
    · rw [nI_leI (by omega) (by omega)] at z
      exact fin (by omega) _ _ _
    · rw [nI_eq (by omega) (by omega)]
      refine ⟨fun c => ?_, fun nf => ?_⟩
      · have := (pcn_full (S 0) (by omega) _ q1).2.mpr c
        exact fin (by omega) _ _ _
      · have hlt : pcn d + k < S 0 := by
          have b : pcn (sqF S d k) ≠ S 0 := fun e => nf ((pcn_full (S 0) (by omega) _ q1).2.mp e)
          omega
        have f1 := (fs_ok hS q1 nf q3).1
        have hu := hS.2.2.1 _ f1
        have ho := ov_le (S := S) (d := d) hv k
        refine pw_firstStep hP hS q1 nf q3 ?_
        refine pw_isUpC hP.2.1 hS f1 ?_
        have step : ∀ t, t = tuF S d v (k + 1) → ∀ o, o = ovF S d v (k + 1) → ∀ y : Int32, y = nI (sqF S d k) ||| (nI 1 <<< (nI (fs S (sqF S d k)) &&& 31)) → ∀ y' : Int32, y' = nI k + nI 1 → w_X1_turnings_14 n y (nI o) (nI (2 ^ S 0 - 1)) (nI t) y' M K := by
          rintro _ rfl _ rfl _ rfl _ rfl
          rw [nI_add, bit_set _ (by omega) _ (by omega)]
          exact ih (k + 1) (by omega) (by omega)
        have eo : ovF S d v (k + 1) = 1 - S (9 + fs S (sqF S d k)) := rfl
        have et : tuF S d v (k + 1) = tuF S d v k + (if S (9 + fs S (sqF S d k)) = ovF S d v k then 1 else 0) := rfl
        refine ⟨fun c => ?_, fun c => ?_⟩
        · have u1 : S (9 + fs S (sqF S d k)) = 1 := by
            rcases (show S (9 + fs S (sqF S d k)) = 0 ∨ S (9 + fs S (sqF S d k)) = 1 by omega) with y | y
            · rw [y] at c; exact absurd rfl c
            · exact y
          rw [u1] at eo et
          rw [nI_eq (by omega) (by omega)]
          refine ⟨fun e => step _ ?_ _ eo.symm, fun e => ?_⟩
          · rw [et, if_neg (by omega)]; rfl
          · rintro _ rfl
            rw [show nI (tuF S d v k) + nI 1 = nI (tuF S d v k + 1) from nI_add _ _]
            exact step _ (by rw [et, if_pos (by omega)]) _ eo.symm
        · have u0 : S (9 + fs S (sqF S d k)) = 0 := (nI_z (by omega)).mp c
          rw [u0] at eo et
          rw [nI_eq (by omega) (by omega)]
          refine ⟨fun e => step _ ?_ _ eo.symm, fun e => ?_⟩
          · rw [et, if_neg (by omega)]; rfl
          · rintro _ rfl
            rw [show nI (tuF S d v k) + nI 1 = nI (tuF S d v k + 1) from nI_add _ _]
            exact step _ (by rw [et, if_pos (by omega)]) _ eo.symm
theorem lq_turnM {M : Mem} {S : Nat → Nat} {d v : Nat} {K : Int32 → Int32 → Int32 → Mem → Prop} (hS : CV S) (hC : RC (M 1) S) (hT : MTB M S d) (hd : d < 2 ^ S 0) (hw : 0 < wS S d) (hv : v ≤ 1) (hK : ∀ x2 x3, K (nI (tuF S d v (S 0 - pcn d))) x2 x3 M) :
    ∀ (n k : Nat), pcn d + k ≤ S 0 → S 0 + 1 ≤ n + (pcn d + k) → w_X7_turnings_29 n (nI (tuF S d v k)) (nI (ovF S d v k)) (nI (sqF S d k)) M K := by
  intro n
  have h7 := hS.1.2
  have hp2 := p2_le h7
  induction n with
  | zero => intro k h1 h2; omega
  | succ n ih =>
    intro k h1 h2
    unfold w_X7_turnings_29
    obtain ⟨q1, q2, q3, q4⟩ := sq_ok hS hd hw k h1
    refine pw_all7 hC.1 h7 ?_
    rw [nI_eq (by omega) (by omega)]
    refine ⟨fun c => ?_, fun nf => ?_⟩
    · have e := (pcn_full (S 0) (by omega) _ q1).2.mpr c
      have := hK (nI (ovF S d v k)) (nI (sqF S d k))
      rw [show S 0 - pcn d = k by omega] at this
      exact this
    · have hlt : pcn d + k < S 0 := by
        have b : pcn (sqF S d k) ≠ S 0 := fun e => nf ((pcn_full (S 0) (by omega) _ q1).2.mp e)
        omega
      have f1 := (fs_ok hS q1 nf q3).1
      have hu := hS.2.2.1 _ f1
      have ho := ov_le (S := S) (d := d) hv k
      refine pw_nextOf hS hC.1 hT q1 q2 nf q3 ?_
      have et : tuF S d v (k + 1) = tuF S d v k + (if S (9 + fs S (sqF S d k)) = ovF S d v k then 1 else 0) := rfl
      have row : M 1 (9 + fs S (sqF S d k)) = nI (S (9 + fs S (sqF S d k))) := hC.2.1 _ f1
      have step : ∀ t, t = tuF S d v (k + 1) → (vp_in ((nI 9) + nI (fs S (sqF S d k))) 23 ∧ ∀ y15 : Int32, y15 = ((nI 1) - (M 1 ((nI 9) + nI (fs S (sqF S d k))).toNatClampNeg)) → ∀ y16 : Int32, y16 = (nI (sqF S d k) ||| ((nI 1) <<< (nI (fs S (sqF S d k)) &&& 31))) → w_X7_turnings_29 n (nI t) y15 y16 M K) := by
        rintro _ rfl
        rw [nI_add, nI_clamp (by omega), row]
        refine ⟨vp_in_nI (by omega) (by decide), ?_⟩
        rintro _ rfl _ rfl
        rw [bit_set _ (by omega) _ (by omega), pk_sub hu]
        exact ih (k + 1) (by omega) (by omega)
      refine pw_isUp7 hC hS f1 ho (fun e => ?_) (fun e => ?_)
      · refine ⟨fun _ => ?_, fun z => absurd rfl z⟩
        rintro _ rfl
        rw [show nI (tuF S d v k) + nI 1 = nI (tuF S d v k + 1) from nI_add _ _]
        exact step _ (by rw [et, if_pos e])
      · refine ⟨fun z => absurd z (by decide), fun _ => ?_⟩
        rintro _ rfl
        rw [show nI (tuF S d v k) + nI 0 = nI (tuF S d v k + 0) from nI_add _ _]
        exact step _ (by rw [et, if_neg e])
-- what can be done now; the whole length
theorem lq_nowC {M0 : Mem} {S : Nat → Nat} {d v : Nat} {K : Int32 → Int32 → Mem → Prop} (hS : CV S) (hC : CC M0 1 S) (h2 : M0 1 2 = nI d) (h3 : M0 1 3 = nI v) (hd : d < 128) (hv : v ≤ 1) (hK : ∀ x M, (∀ a, a < 23 + 1 ∨ 23 + 7 < a → M a = M0 a) → K (nI (bsB (fun b => decide (rsn S b d v = 0)) (S 0))) x M) :
    ∀ (n j : Nat) (M : Mem), j ≤ S 0 → S 0 + 1 ≤ n + j → (∀ a, a < 23 + 1 ∨ 23 + 7 < a → M a = M0 a) → w_X6_possibleNow_4 n (nI (bsB (fun b => decide (rsn S b d v = 0)) j)) (nI j) M K := by
  intro n
  have h7 := hS.1.2
  induction n with
  | zero => intro j M h1 h2; omega
  | succ n ih =>
    intro j M q1 q2 hM
    unfold w_X6_possibleNow_4
    have hCM : CC M 1 S := hC.kept (hM _ (by decide)) (hM _ (by decide)) (hM _ (by decide))
    rw [hCM.1, hM 1 (by decide), h2, h3]
    refine ⟨fun z => ?_, fun z => ?_⟩
    · rw [nI_leI (by omega) (by omega)] at z
      have e : j = S 0 := by omega
      subst e
      exact hK _ M hM
    · rw [nI_leI (by omega) (by omega)] at z
      refine pw_reason (by decide) hS hCM (by omega) hd hv (fun M1 f1 => ?_)
      have hM1 : ∀ a, a < 23 + 1 ∨ 23 + 7 < a → M1 a = M0 a := fun a ha => by rw [f1 a ha]; exact hM a ha
      have hr := rsn_le S j d v
      rw [nI_z (by omega)]
      refine ⟨fun c => ?_, fun c => ?_⟩
      · rintro _ rfl
        rw [nI_add]
        have := ih (j + 1) M1 (by omega) (by omega) hM1
        rw [show bsB (fun b => decide (rsn S b d v = 0)) (j + 1) = bsB (fun b => decide (rsn S b d v = 0)) j from if_neg (by simpa using c)] at this
        exact this
      · rintro _ rfl _ rfl
        rw [nI_add, bit_set8 j (by omega), nI_or]
        have := ih (j + 1) M1 (by omega) (by omega) hM1
        rw [show bsB (fun b => decide (rsn S b d v = 0)) (j + 1) = bsB (fun b => decide (rsn S b d v = 0)) j ||| 2 ^ j from if_pos (by simpa using c)] at this
        exact this
theorem lq_nowM {M0 : Mem} {S : Nat → Nat} {d v : Nat} {K : Int32 → Int32 → Mem → Prop} (hS : CV S) (hC : RC (M0 1) S) (h2 : M0 1 16 = nI d) (h3 : M0 1 17 = nI v) (hd : d < 128) (hv : v ≤ 1) (hK : ∀ x M, PFR M0 M → K (nI (bsB (fun b => decide (rsn S b d v = 0)) (S 0))) x M) :
    ∀ (n j : Nat) (M : Mem), j ≤ S 0 → S 0 + 1 ≤ n + j → PFR M0 M → w_X7_canNow_4 n (nI (bsB (fun b => decide (rsn S b d v = 0)) j)) (nI j) M K := by
  intro n
  have h7 := hS.1.2
  induction n with
  | zero => intro j M h1 h2; omega
  | succ n ih =>
    intro j M q1 q2 hM
    unfold w_X7_canNow_4
    have row : M 1 = M0 1 := hM.1 1 (by decide) (by decide) (by decide) (by decide)
    have hCM : RC (M 1) S := by rw [row]; exact hC
    rw [hCM.1, row, h2, h3]
    refine ⟨fun z => ?_, fun z => ?_⟩
    · rw [nI_leI (by omega) (by omega)] at z
      have e : j = S 0 := by omega
      subst e
      exact hK _ M hM
    · rw [nI_leI (by omega) (by omega)] at z
      refine pw_reason7 hS hCM (by omega) hd hv (fun M1 f1 => ?_)
      have hr := rsn_le S j d v
      rw [nI_z (by omega)]
      refine ⟨fun c => ?_, fun c => ?_⟩
      · rintro _ rfl _ rfl
        rw [nI_add, nI_or0]
        have := ih (j + 1) M1 (by omega) (by omega) (hM.trans f1)
        rw [show bsB (fun b => decide (rsn S b d v = 0)) (j + 1) = bsB (fun b => decide (rsn S b d v = 0)) j from if_neg (by simpa using c)] at this
        exact this
      · rintro _ rfl _ rfl
        rw [nI_add, bit_set8 j (by omega), nI_or]
        have := ih (j + 1) M1 (by omega) (by omega) (hM.trans f1)
        rw [show bsB (fun b => decide (rsn S b d v = 0)) (j + 1) = bsB (fun b => decide (rsn S b d v = 0)) j ||| 2 ^ j from if_pos (by simpa using c)] at this
        exact this
theorem lq_lenC {M : Mem} {n0 : Nat} {L : Nat → Nat} {K : Int32 → Int32 → Mem → Prop} (hn : n0 ≤ 7) (h0 : M 1 0 = nI n0) (hL : ∀ f, f ≤ n0 → M 2 f = nI (L f)) (hK : ∀ x, K (nI (smB L (n0 + 1))) x M) :
    ∀ (n j : Nat), j ≤ n0 + 1 → n0 + 2 ≤ n + j → w_X4_wholeLength_4 1 n (nI (smB L j)) (nI j) M K := by
  intro n
  induction n with
  | zero => intro j h1 h2; omega
  | succ n ih =>
    intro j h1 h2
    unfold w_X4_wholeLength_4
    rw [h0]
    refine ⟨fun z => ?_, fun z => ?_⟩
    · rw [nI_ltI (by omega) (by omega)] at z
      have e : j = n0 + 1 := by omega
      subst e
      exact hK _
    · rw [nI_ltI (by omega) (by omega)] at z
      refine pw_lengthAt (by omega) ?_
      rw [show M (1 + 1) j = nI (L j) from hL j (by omega)]
      rintro _ rfl _ rfl
      rw [nI_add, nI_add]
      exact ih (j + 1) (by omega) (by omega)
theorem lq_lenM {M : Mem} {n0 : Nat} {L : Nat → Nat} {K : Int32 → Int32 → Mem → Prop} (hn : n0 ≤ 7) (h0 : M 1 0 = nI n0) (hL : ∀ f, f ≤ n0 → M 1 (1 + f) = nI (L f)) (hK : ∀ x, K (nI (smB L (n0 + 1))) x M) :
    ∀ (n j : Nat), j ≤ n0 + 1 → n0 + 2 ≤ n + j → w_X7_wholeLength_4 n (nI (smB L j)) (nI j) M K := by
  intro n
  induction n with
  | zero => intro j h1 h2; omega
  | succ n ih =>
    intro j h1 h2
    unfold w_X7_wholeLength_4
    rw [h0]
    refine ⟨fun z => ?_, fun z => ?_⟩
    · rw [nI_ltI (by omega) (by omega)] at z
      have e : j = n0 + 1 := by omega
      subst e
      exact hK _
    · rw [nI_ltI (by omega) (by omega)] at z
      rw [nI_add, nI_clamp (show 1 + j < 2 ^ 31 by omega), hL j (by omega)]
      refine ⟨vp_in_nI (by omega) (by decide), ?_⟩
      rintro _ rfl _ rfl
      rw [nI_add, nI_add]
      exact ih (j + 1) (by omega) (by omega)
