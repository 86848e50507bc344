/-! pairs: orders, order, count -/
theorem nI_gt0 {w : Nat} (h : w < 2 ^ 31) : (nI w ≤ 0) = (w = 0) := propext (nI_le0 h)
theorem pw_hasOrder {M : Mem} {G : Nat → Nat} {Q : Int32 → Mem → Prop} (hC : CS M 1 G) (hV : VG G) (hP : PLN M) (hQ : ∀ M', (∀ a, a ≤ 30 → M' a = M a) → PLNS M' (cor G) → (0 < wS (cor G) (G 16) → Q (nI 1) M') ∧ (wS (cor G) (G 16) = 0 → Q (nI 0) M')) : w_X6_hasOrder M Q := by
  unfold w_X6_hasOrder
  refine pw_prepare hC hV hP (fun M1 f1 p1 => ?_)
  have hd : G 16 < 2 ^ cor G 0 := by rw [cor_0]; exact hV.2.2.2.1
  rw [f1 1 (by decide), hC.2.2.1]
  refine pw_waysFrom hV.d ?_
  rw [(p1.2.2 _ hd).1, nI_gt0 (wS_lt hV.cv hd)]
  obtain ⟨h1, h0⟩ := hQ M1 f1 p1
  exact ⟨fun z => h0 z, fun z => h1 (by omega)⟩
/-- the sets along the first order -/
def sqF (S : Nat → Nat) (d : Nat) : Nat → Nat
  | 0 => d
  | k + 1 => sqF S d k ||| 2 ^ fs S (sqF S d k)
theorem sq_ok {S : Nat → Nat} {d : Nat} (hS : CV S) (hd : d < 2 ^ S 0) (hw : 0 < wS S d) : ∀ k, pcn d + k ≤ S 0 → sqF S d k < 2 ^ S 0 ∧ sqF S d k &&& d = d ∧ 0 < wS S (sqF S d k) ∧ pcn (sqF S d k) = pcn d + k := by
  intro k
  have h7 := hS.1.2
  induction k with
  | zero => intro _; exact ⟨hd, Nat.and_self d, hw, rfl⟩
  | succ k ih =>
    intro hk
    obtain ⟨h1, h2, h3, h4⟩ := ih (by omega)
    have hp := pcn_full (S 0) (by omega) _ h1
    have hf : sqF S d k ≠ 2 ^ S 0 - 1 := fun e => by
      have := hp.2.mpr e
      omega
    obtain ⟨f1, f2, f3⟩ := fs_ok hS h1 hf h3
    obtain ⟨l1, l2, l3, l4, l5⟩ := ld_facts hS h1 f1 f2
    exact ⟨l3, sub_or h2 _, l2, by show pcn (sqF S d k ||| 2 ^ fs S (sqF S d k)) = _; rw [l5, h4]; omega⟩
theorem sq_nf {S : Nat → Nat} {d k : Nat} (hS : CV S) (hd : d < 2 ^ S 0) (hw : 0 < wS S d) (hk : pcn d + k < S 0) : sqF S d k ≠ 2 ^ S 0 - 1 := by
  obtain ⟨h1, h2, h3, h4⟩ := sq_ok hS hd hw k (by omega)
  have h7 := hS.1.2
  intro e
  have := (pcn_full (S 0) (by omega) _ h1).2.mpr e
  omega
theorem sq_full {S : Nat → Nat} {d k : Nat} (hS : CV S) (hd : d < 2 ^ S 0) (hw : 0 < wS S d) (hk : pcn d + k = S 0) : sqF S d k = 2 ^ S 0 - 1 := by
  obtain ⟨h1, h2, h3, h4⟩ := sq_ok hS hd hw k (by omega)
  have h7 := hS.1.2
  exact (pcn_full (S 0) (by omega) _ h1).2.mp (by omega)
theorem pw_openBends {M : Mem} {r d n : Nat} {Q : Int32 → Mem → Prop} (hn : M r 0 = nI n) (hd : M r 2 = nI d) (hd2 : d < 128) (hle : pcn d ≤ n) (h : Q (nI (n - pcn d)) M) : w_X4_openBends r M Q := by
  unfold w_X4_openBends
  refine pw_doneBends hd hd2 ?_
  rw [hn, pk_sub hle]
  exact h
theorem lq_ord44 {M : Mem} {S : Nat → Nat} {d p : Nat} {K : Int32 → Int32 → Mem → Prop} (hP : PLNS M S) (hS : CV S) (hd : d < 2 ^ S 0) (hw : 0 < wS S d) (hp : pcn d + p ≤ S 0) (hK : ∀ x, K (nI (sqF S d p)) x M) :
    ∀ (n k : Nat), k ≤ p → p + 1 ≤ n + k → w_X6_order_44 n (nI p) (nI (sqF S d k)) (nI k) M K := by
  intro n
  have h7 := hS.1.2
  have hp2 := p2_le h7
  induction n with
  | zero => intro k h1 h2; omega
  | succ n ih =>
    intro k h1 h2
    unfold w_X6_order_44
    refine ⟨fun z => ?_, fun z => ?_⟩
    · rw [nI_leI (by omega) (by omega)] at z
      have e : k = p := by omega
      subst e
      exact hK _
    · rw [nI_leI (by omega) (by omega)] at z
      obtain ⟨q1, q2, q3, q4⟩ := sq_ok hS hd hw k (by omega)
      have nf := sq_nf hS hd hw (k := k) (by omega)
      have f1 := (fs_ok hS q1 nf q3).1
      refine pw_firstStep hP hS q1 nf q3 ?_
      rintro _ rfl _ rfl
      rw [nI_add, bit_set _ (by omega) _ (by omega)]
      exact ih (k + 1) (by omega) (by omega)
-- turnings
def ovF (S : Nat → Nat) (d v : Nat) : Nat → Nat
  | 0 => v
  | k + 1 => 1 - S (9 + fs S (sqF S d k))
def tuF (S : Nat → Nat) (d v : Nat) : Nat → Nat
  | 0 => 0
  | k + 1 => tuF S d v k + (if S (9 + fs S (sqF S d k)) = ovF S d v k then 1 else 0)
theorem ov_le {S : Nat → Nat} {d v : Nat} (hv : v ≤ 1) : ∀ k, ovF S d v k ≤ 1
  | 0 => hv
  | k + 1 => Nat.sub_le _ _
theorem lq_turnC {M : Mem} {S : Nat → Nat} {d v : Nat} {K : Int32 → Int32 → Int32 → Int32 → Mem → Prop} (hP : PLNS M S) (hS : CV S) (hd : d < 2 ^ S 0) (hw : 0 < wS S d) (hv : v ≤ 1) (hK : ∀ x1 x2 x5, K x1 x2 (nI (tuF S d v (S 0 - pcn d))) x5 M) :
    ∀ (n k : Nat), pcn d + k ≤ S 0 → S 0 + 1 ≤ n + (pcn d + k) → w_X1_turnings_14 n (nI (sqF S d k)) (nI (ovF S d v k)) (nI (2 ^ S 0 - 1)) (nI (tuF S d v k)) (nI k) M K := by
  intro n
  have h7 := hS.1.2
  have hp2 := p2_le h7
  induction n with
  | zero => intro k h1 h2; omega
  | succ n ih =>
    intro k h1 h2
    unfold w_X1_turnings_14
    obtain ⟨q1, q2, q3, q4⟩ := sq_ok hS hd hw k h1
    have fin : pcn d + k = S 0 → ∀ x1 x2 x5, K x1 x2 (nI (tuF S d v k)) x5 M := fun e x1 x2 x5 => by
      have := hK x1 x2 x5
      rw [show S 0 - pcn d = k by omega] at this
      exact this
    rw [hP.2.1.1]
    refine ⟨fun z => ?_, fun z => ?_⟩
    · rw [nI_leI (by omega) (by omega)] at z
      exact fin (by omega) _ _ _
    · rw [nI_eq (by omega) (by omega)]
      refine ⟨fun c => ?_, fun nf => ?_⟩
      · have := (pcn_full (S 0) (by omega) _ q1).2.mpr c
        exact fin (by omega) _ _ _
      · have hlt : pcn d + k < S 0 := by
          have b : pcn (sqF S d k) ≠ S 0 := fun e => nf ((pcn_full (S 0) (by omega) _ q1).2.mp e)
          omega
        have f1 := (fs_ok hS q1 nf q3).1
        have hu := hS.2.2.1 _ f1
        have ho := ov_le (S := S) (d := d) hv k
        refine pw_firstStep hP hS q1 nf q3 ?_
        refine pw_isUpC hP.2.1 hS f1 ?_
        have step : ∀ t, t = tuF S d v (k + 1) → ∀ o, o = ovF S d v (k + 1) → ∀ y : Int32, y = nI (sqF S d k) ||| (nI 1 <<< (nI (fs S (sqF S d k)) &&& 31)) → ∀ y' : Int32, y' = nI k + nI 1 → w_X1_turnings_14 n y (nI o) (nI (2 ^ S 0 - 1)) (nI t) y' M K := by
          rintro _ rfl _ rfl _ rfl _ rfl
          rw [nI_add, bit_set _ (by omega) _ (by omega)]
          exact ih (k + 1) (by omega) (by omega)
        have eo : ovF S d v (k + 1) = 1 - S (9 + fs S (sqF S d k)) := rfl
        have et : tuF S d v (k + 1) = tuF S d v k + (if S (9 + fs S (sqF S d k)) = ovF S d v k then 1 else 0) := rfl
        refine ⟨fun c => ?_, fun c => ?_⟩
        · have u1 : S (9 + fs S (sqF S d k)) = 1 := by
            rcases (show S (9 + fs S (sqF S d k)) = 0 ∨ S (9 + fs S (sqF S d k)) = 1 by omega) with y | y
            · rw [y] at c; exact absurd rfl c
            · exact y
          rw [u1] at eo et
          rw [nI_eq (by omega) (by omega)]
          refine ⟨fun e => step _ ?_ _ eo.symm, fun e => ?_⟩
          · rw [et, if_neg (by omega)]; rfl
          · rintro _ rfl
            rw [show nI (tuF S d v k) + nI 1 = nI (tuF S d v k + 1) from nI_add _ _]
            exact step _ (by rw [et, if_pos (by omega)]) _ eo.symm
        · have u0 : S (9 + fs S (sqF S d k)) = 0 := (nI_z (by omega)).mp c
          rw [u0] at eo et
          rw [nI_eq (by omega) (by omega)]
          refine ⟨fun e => step _ ?_ _ eo.symm, fun e => ?_⟩
          · rw [et, if_neg (by omega)]; rfl
          · rintro _ rfl
            rw [show nI (tuF S d v k) + nI 1 = nI (tuF S d v k + 1) from nI_add _ _]
            exact step _ (by rw [et, if_pos (by omega)]) _ eo.symm
-- what can be done now; the whole length
theorem lq_nowC {M0 : Mem} {S : Nat → Nat} {d v : Nat} {K : Int32 → Int32 → Mem → Prop} (hS : CV S) (hC : CC M0 1 S) (h2 : M0 1 2 = nI d) (h3 : M0 1 3 = nI v) (hd : d < 128) (hv : v ≤ 1) (hK : ∀ x M, (∀ a, a < 23 + 1 ∨ 23 + 7 < a → M a = M0 a) → K (nI (bsB (fun b => decide (rsn S b d v = 0)) (S 0))) x M) :
    ∀ (n j : Nat) (M : Mem), j ≤ S 0 → S 0 + 1 ≤ n + j → (∀ a, a < 23 + 1 ∨ 23 + 7 < a → M a = M0 a) → w_X6_possibleNow_4 n (nI (bsB (fun b => decide (rsn S b d v = 0)) j)) (nI j) M K := by
  intro n
  have h7 := hS.1.2
  induction n with
  | zero => intro j M h1 h2; omega
  | succ n ih =>
    intro j M q1 q2 hM
    unfold w_X6_possibleNow_4
    have hCM : CC M 1 S := hC.kept (hM _ (by decide)) (hM _ (by decide)) (hM _ (by decide))
    rw [hCM.1, hM 1 (by decide), h2, h3]
    refine ⟨fun z => ?_, fun z => ?_⟩
    · rw [nI_leI (by omega) (by omega)] at z
      have e : j = S 0 := by omega
      subst e
      exact hK _ M hM
    · rw [nI_leI (by omega) (by omega)] at z
      refine pw_reason (by decide) hS hCM (by omega) hd hv (fun M1 f1 => ?_)
      have hM1 : ∀ a, a < 23 + 1 ∨ 23 + 7 < a → M1 a = M0 a := fun a ha => by rw [f1 a ha]; exact hM a ha
      have hr := rsn_le S j d v
      rw [nI_z (by omega)]
      refine ⟨fun c => ?_, fun c => ?_⟩
      · rintro _ rfl
        rw [nI_add]
        have := ih (j + 1) M1 (by omega) (by omega) hM1
        rw [show bsB (fun b => decide (rsn S b d v = 0)) (j + 1) = bsB (fun b => decide (rsn S b d v = 0)) j from if_neg (by simpa using c)] at this
        exact this
      · rintro _ rfl _ rfl
        rw [nI_add, bit_set8 j (by omega), nI_or]
        have := ih (j + 1) M1 (by omega) (by omega) hM1
        rw [show bsB (fun b => decide (rsn S b d v = 0)) (j + 1) = bsB (fun b => decide (rsn S b d v = 0)) j ||| 2 ^ j from if_pos (by simpa using c)] at this
        exact this
theorem lq_lenC {M : Mem} {n0 : Nat} {L : Nat → Nat} {K : Int32 → Int32 → Mem → Prop} (hn : n0 ≤ 7) (h0 : M 1 0 = nI n0) (hL : ∀ f, f ≤ n0 → M 2 f = nI (L f)) (hK : ∀ x, K (nI (smB L (n0 + 1))) x M) :
    ∀ (n j : Nat), j ≤ n0 + 1 → n0 + 2 ≤ n + j → w_X4_wholeLength_4 1 n (nI (smB L j)) (nI j) M K := by
  intro n
  induction n with
  | zero => intro j h1 h2; omega
  | succ n ih =>
    intro j h1 h2
    unfold w_X4_wholeLength_4
    rw [h0]
    refine ⟨fun z => ?_, fun z => ?_⟩
    · rw [nI_ltI (by omega) (by omega)] at z
      have e : j = n0 + 1 := by omega
      subst e
      exact hK _
    · rw [nI_ltI (by omega) (by omega)] at z
      refine pw_lengthAt (by omega) ?_
      rw [show M (1 + 1) j = nI (L j) from hL j (by omega)]
      rintro _ rfl _ rfl
      rw [nI_add, nI_add]
      exact ih (j + 1) (by omega) (by omega)
-- follow
def GF (G : Nat → Nat) : Nat → Nat → Nat
  | 0 => G
  | i + 1 => upG (upG (upG (GF G i) 17 (1 - G (9 + fs (cor G) (sqF (cor G) (G 16) i)))) 16 (sqF (cor G) (G 16) (i + 1))) 22 (GF G i 22 + 1)
theorem GF_o (G : Nat → Nat) {j : Nat} (h1 : j ≠ 16) (h2 : j ≠ 17) (h3 : j ≠ 22) : ∀ i, GF G i j = G j
  | 0 => rfl
  | i + 1 => by
    show upG (upG (upG (GF G i) 17 _) 16 _) 22 _ j = G j
    rw [upG_n h3, upG_n h1, upG_n h2]
    exact GF_o G h1 h2 h3 i
theorem GF_16 (G : Nat → Nat) : ∀ i, GF G i 16 = sqF (cor G) (G 16) i
  | 0 => rfl
  | i + 1 => by
    show upG (upG (upG (GF G i) 17 _) 16 _) 22 _ 16 = _
    rw [upG_n (by decide), upG_s]
theorem GF_V {G : Nat → Nat} (hV : VG G) (hw : 0 < wS (cor G) (G 16)) : ∀ i, pcn (G 16) + i ≤ G 0 → VG (GF G i) := by
  intro i
  induction i with
  | zero => intro _; exact hV
  | succ i ih =>
    intro hi
    have hd : G 16 < 2 ^ cor G 0 := by rw [cor_0]; exact hV.2.2.2.1
    have q := sq_ok hV.cv hd hw (i + 1) (by rw [cor_0]; omega)
    refine VG_bdg (VG_done (VG_over (ih (by omega)) (v := 1 - G (9 + fs (cor G) (sqF (cor G) (G 16) i))) (by omega)) (d := sqF (cor G) (G 16) (i + 1)) ?_) _
    rw [upG_n (by decide), GF_o G (by decide) (by decide) (by decide), ← cor_0 G]
    exact q.1
theorem lq_fol62 {M0 : Mem} {G : Nat → Nat} {m : Nat} {K : Int32 → Mem → Prop} (hV : VG G) (hP : PLNS M0 (cor G)) (hw : 0 < wS (cor G) (G 16)) (hm : pcn (G 16) + m ≤ G 0) (hK : ∀ x M, (∀ a, a ≠ 1 → M a = M0 a) → CS M 1 (GF G m) → K x M) :
    ∀ (n i : Nat) (M : Mem), i ≤ m → m + 1 ≤ n + i → (∀ a, a ≠ 1 → M a = M0 a) → CS M 1 (GF G i) → w_X6_follow_62 n (nI m) (nI i) M K := by
  intro n
  have h7 := hV.1.2
  have hp2 := p2_le h7
  have hd : G 16 < 2 ^ cor G 0 := by rw [cor_0]; exact hV.2.2.2.1
  have hS := hV.cv
  induction n with
  | zero => intro i M h1 h2; omega
  | succ n ih =>
    intro i M h1 h2 hM hC
    unfold w_X6_follow_62
    refine ⟨fun z => ?_, fun z => ?_⟩
    · rw [nI_leI (by omega) (by omega)] at z
      have e : i = m := by omega
      subst e
      exact hK _ M hM hC
    · rw [nI_leI (by omega) (by omega)] at z
      have hPM : PLNS M (cor G) := ⟨by rw [hM 31 (by decide)]; exact hP.1, hP.2.1.kept (hM _ (by decide)) (hM _ (by decide)) (hM _ (by decide)), fun d q => by rw [hM 43 (by decide), hM 44 (by decide)]; exact hP.2.2 d q⟩
      obtain ⟨q1, q2, q3, q4⟩ := sq_ok hS hd hw i (by rw [cor_0]; omega)
      have nf := sq_nf hS hd hw (k := i) (by rw [cor_0]; omega)
      have f1 := (fs_ok hS q1 nf q3).1
      rw [cor_0] at f1
      have hVi := GF_V hV hw i (by omega)
      rw [hC.2.2.1, GF_16]
      refine pw_firstStep hPM hS q1 nf q3 ?_
      refine pw_isUp hC hVi (by rw [GF_o G (by decide) (by decide) (by decide)]; exact f1) ?_
      rw [GF_o G (by omega) (by omega) (by omega)]
      have hu := hV.2.2.1 _ f1
      have step : ∀ o, o = 1 - G (9 + fs (cor G) (sqF (cor G) (G 16) i)) → ∀ M17 : Mem, M17 = um M 1 (upd (M 1) 3 (nI o)) → w_X4_doBend 1 (nI (fs (cor G) (sqF (cor G) (G 16) i))) M17 (fun M18 => ∀ y19 : Int32, y19 = nI i + (nI 1) → w_X6_follow_62 n (nI m) y19 M18 K) := by
        rintro o ho M1 e1
        unfold w_X4_doBend
        have c1 : CS M1 1 (upG (GF G i) 17 o) := by rw [e1]; exact CS_over hC o
        rintro M2 e2 M3 e3 _ rfl
        rw [c1.2.2.1, upG_n (by decide), GF_16, bit_set _ (by rw [cor_0] at q1; omega) _ (by omega)] at e2
        have c2 : CS M2 1 (upG (upG (GF G i) 17 o) 16 (sqF (cor G) (G 16) (i + 1))) := by rw [e2]; exact CS_done c1 _
        rw [c2.2.2.2.2.1, upG_n (by decide), upG_n (by decide), nI_add] at e3
        have c3 : CS M3 1 (GF G (i + 1)) := by
          show CS M3 1 (upG (upG (upG (GF G i) 17 _) 16 _) 22 _)
          rw [← ho, e3]
          exact CS_bdg c2 _
        rw [nI_add]
        exact ih (i + 1) M3 (by omega) (by omega) (fun a ha => by rw [e3, um_n ha, e2, um_n ha, e1, um_n ha]; exact hM a ha) c3
      refine ⟨fun c => ?_, fun c => ?_⟩
      · have : G (9 + fs (cor G) (sqF (cor G) (G 16) i)) = 1 := by
          refine Classical.byContradiction fun e => ?_
          rw [if_neg e] at c
          exact c rfl
        exact step 0 (by omega)
      · have : G (9 + fs (cor G) (sqF (cor G) (G 16) i)) = 0 := by
          refine Classical.byContradiction fun e => ?_
          rw [if_pos (by omega)] at c
          exact absurd c (by decide)
        exact step 1 (by omega)
/-! pairs: mustWait -/
theorem nar_b0 : vp_nar .boolean (nI 0) = nI 0 := by decide
theorem nar_b1 : vp_nar .boolean (nI 1) = nI 1 := by decide
theorem lq_cp3 {M0 : Mem} {d : Nat} {x2 x3 : Int32} {K : Int32 → Mem → Prop} (hK : ∀ x M, (∀ a, a ≠ 45 → M a = M0 a) → (∀ j, j < 128 → M 45 j = nI (if j = d then 1 else 0)) → K x M) (hd : d < 128) :
    ∀ (n k : Nat) (M : Mem), k ≤ 128 → 129 ≤ n + k → (∀ a, a ≠ 45 → M a = M0 a) → (∀ j, j < k → M 45 j = nI (if j = d then 1 else 0)) → w_X1_canPrecede_3 n (nI d) x2 x3 (nI k) M K := by
  intro n
  induction n with
  | zero => intro k M h1 h2; omega
  | succ n ih =>
    intro k M h1 h2 hM hj
    unfold w_X1_canPrecede_3
    refine ⟨fun z => ?_, fun z => ?_⟩
    · rw [nI_leI (by decide) (by omega)] at z
      have e : k = 128 := by omega
      subst e
      exact hK _ M hM hj
    · rw [nI_leI (by decide) (by omega)] at z
      have hv : vp_in (nI k) 128 := vp_in_nI (by omega) (by decide)
      rw [nI_clamp (by omega), nI_eq (by omega) (by omega), nar_b0, nar_b1]
      have go : ∀ v : Nat, v = (if k = d then 1 else 0) → ∀ M1 : Mem, M1 = um M 45 (upd (M 45) k (nI v)) → ∀ y : Int32, y = nI k + nI 1 → w_X1_canPrecede_3 n (nI d) x2 x3 y M1 K := by
        rintro v hv M1 e1 _ rfl
        rw [nI_add]
        refine ih (k + 1) M1 (by omega) (by omega) (fun a ha => by rw [e1, um_n ha]; exact hM a ha) (fun j q => ?_)
        rw [e1, um_s, upd_a]
        by_cases e : j = k
        · subst e; rw [if_pos rfl, hv]
        · rw [if_neg e]; exact hj j (by omega)
      exact ⟨fun c => ⟨hv, go 0 (by rw [if_neg c])⟩, fun c => ⟨hv, go 1 (by rw [if_pos c])⟩⟩
/-- reached from i over the bends of u -/
def rch (u i n e : Nat) : Prop := ∃ b, b < n ∧ u.testBit b = true ∧ e = i ||| 2 ^ b
theorem lq_reach {M0 : Mem} {u i n0 : Nat} {K : Int32 → Mem → Prop} (hn : n0 ≤ 7) (h0 : M0 40 0 = nI n0) (hu : u < 128) (hi : i < 128) (hK : ∀ x M, (∀ a, a ≠ 45 → M a = M0 a) → (∀ e, rch u i n0 e → M 45 e = nI 1) → (∀ e, ¬ rch u i n0 e → M 45 e = M0 45 e) → K x M) :
    ∀ (n k : Nat) (M : Mem), k ≤ n0 → n0 + 1 ≤ n + k → (∀ a, a ≠ 45 → M a = M0 a) → (∀ e, rch u i k e → M 45 e = nI 1) → (∀ e, ¬ rch u i k e → M 45 e = M0 45 e) → w_X1_reachFrom_2 n (nI i) (nI u) (nI k) M K := by
  intro n
  induction n with
  | zero => intro k M h1 h2; omega
  | succ n ih =>
    intro k M h1 h2 hM hr hs
    unfold w_X1_reachFrom_2
    rw [hM 40 (by decide), h0]
    refine ⟨fun z => ?_, fun z => ?_⟩
    · rw [nI_leI (by omega) (by omega)] at z
      have e : k = n0 := by omega
      subst e
      exact hK _ M hM hr hs
    · rw [nI_leI (by omega) (by omega)] at z
      rintro _ rfl
      have ho := bit_or_lt i hi k (by omega)
      rw [bit_set i hi k (by omega), nbit hu (by omega)]
      refine ⟨fun c => ?_, fun c => ?_⟩
      · rintro _ rfl
        rw [nI_add]
        have e : ∀ e, rch u i (k + 1) e ↔ rch u i k e := fun e => ⟨fun ⟨b, b1, b2, b3⟩ => ⟨b, by
          have : b ≠ k := fun q => c (by rw [← q]; exact b2)
          omega, b2, b3⟩, fun ⟨b, b1, b2, b3⟩ => ⟨b, by omega, b2, b3⟩⟩
        exact ih (k + 1) M (by omega) (by omega) hM (fun q w => hr q ((e q).mp w)) (fun q w => hs q (fun w' => w ((e q).mpr w')))
      · refine ⟨fun y => absurd y (nI_neg (by omega)), fun _ => ⟨fun y => ?_, fun _ => ⟨vp_in_nI ho (by decide), ?_⟩⟩⟩
        · rw [nI_leI (by decide) (by omega)] at y; omega
        · rintro M1 e1 _ rfl
          rw [nI_clamp (by omega), nar_b1] at e1
          rw [nI_add]
          refine ih (k + 1) M1 (by omega) (by omega) (fun a ha => by rw [e1, um_n ha]; exact hM a ha) (fun q w => ?_) (fun q w => ?_)
          · rw [e1, um_s, upd_a]
            by_cases e : q = i ||| 2 ^ k
            · rw [if_pos e]
            · rw [if_neg e]
              obtain ⟨b, b1, b2, b3⟩ := w
              refine hr q ⟨b, ?_, b2, b3⟩
              have : b ≠ k := fun z => e (by rw [b3, z])
              omega
          · rw [e1, um_s, upd_n (fun e => w ⟨k, by omega, c, e⟩)]
            exact hs q (fun ⟨b, b1, b2, b3⟩ => w ⟨b, by omega, b2, b3⟩)
/-- orders in which f comes ahead of s -/
def wC (S : Nat → Nat) (D f s d : Nat) : Nat := wW (fun b d => nxB S D d b && cstB f s b d) (S 0) d
def NB (S : Nat → Nat) (D f s d : Nat) : Prop := d < 2 ^ S 0 ∧ d &&& D = D ∧ d.testBit f = false ∧ d.testBit s = false
theorem wC_P (S : Nat → Nat) (D f s n : Nat) : OKP (fun b d => nxB S D d b && cstB f s b d) n := by
  intro b d hb hd q
  have q : (nxB S D d b && cstB f s b d) = true := q
  rw [Bool.and_eq_true] at q
  have q1 := q.1
  unfold nxB at q1
  rw [Bool.and_eq_true] at q1
  exact okS_P S n b d hb hd q1.2
theorem wC_sub {S : Nat → Nat} {D f s d : Nat} (h : 0 < wC S D f s d) : 0 < wS S d := by
  rw [wS_W]
  refine wW_mono (fun d b _ q => ?_) d h
  have q : (nxB S D d b && cstB f s b d) = true := q
  rw [Bool.and_eq_true] at q
  have q1 := q.1
  unfold nxB at q1
  rw [Bool.and_eq_true] at q1
  exact q1.2
theorem wC_in {S : Nat → Nat} {D f s : Nat} (hS : CV S) (hf : f < S 0) {d : Nat} (h1 : d &&& D = D) (h2 : d.testBit f = true) : wC S D f s d = wS S d := by
  rw [wS_W]
  refine wW_agree (Cl := fun d => d &&& D = D ∧ d.testBit f = true) (fun d b hc _ => ?_) (fun d b hc _ => ⟨sub_or hc.1 b, ?_⟩) d ⟨h1, h2⟩
  · show (nxB S D d b && cstB f s b d) = okS S b d
    unfold nxB cstB
    rw [decide_eq_true hc.1, hc.2, Bool.or_true, Bool.and_true, Bool.true_and]
  · rw [Nat.testBit_or, hc.2, Bool.true_or]
theorem wC_step {S : Nat → Nat} {D f s d : Nat} (hS : CV S) (hf : f < S 0) (hs : s < S 0) (hfs : f ≠ s) (hd : NB S D f s d) : 0 < wC S D f s d ↔ ldB S d f = true ∨ ∃ b, b < S 0 ∧ b ≠ s ∧ b ≠ f ∧ ldB S d b = true ∧ 0 < wC S D f s (d ||| 2 ^ b) := by
  obtain ⟨d1, d2, d3, d4⟩ := hd
  have h7 := hS.1.2
  have hp := p2_le h7
  have nf : d ≠ 2 ^ S 0 - 1 := fun e => by
    rw [e, full_t _ (by omega) f hf] at d3
    cases d3
  have eok : ∀ b, (nxB S D d b && cstB f s b d) = true ↔ okS S b d = true ∧ b ≠ s := by
    intro b
    unfold nxB cstB
    rw [decide_eq_true d2, d3, Bool.or_false, Bool.true_and, Bool.and_eq_true, decide_eq_true_eq]
  unfold wC
  rw [wW_pos h7 (wC_P S D f s _) d1 nf]
  refine ⟨fun ⟨b, b1, b2, b3⟩ => ?_, fun h => ?_⟩
  · obtain ⟨k1, k2⟩ := (eok b).mp b2
    have hl : ldB S d b = true := by
      unfold ldB
      rw [k1, Bool.true_and, decide_eq_true_eq]
      exact wC_sub b3
    by_cases e : b = f
    · exact Or.inl (by rw [← e]; exact hl)
    · exact Or.inr ⟨b, b1, k2, e, hl, b3⟩
  · rcases h with h | ⟨b, b1, b2, b3, b4, b5⟩
    · have h' := h
      unfold ldB at h
      rw [Bool.and_eq_true, decide_eq_true_eq] at h
      refine ⟨f, hf, (eok f).mpr ⟨h.1, hfs⟩, ?_⟩
      have := wC_in (s := s) hS hf (d := d ||| 2 ^ f) (sub_or d2 f) (by rw [Nat.testBit_or, Nat.testBit_two_pow, decide_eq_true rfl, Bool.or_true])
      unfold wC at this
      rw [this]
      exact h.2
    · have b4' := b4
      unfold ldB at b4
      rw [Bool.and_eq_true] at b4
      exact ⟨b, b1, (eok b).mpr ⟨b4.1, b2⟩, b5⟩
theorem lq_cp44 {M0 : Mem} {S : Nat → Nat} {D f s : Nat} {Q K : Int32 → Mem → Prop} (hS : CV S) (hP : PLNS M0 S) (hf : f < S 0) (hs : s < S 0) (hfs : f ≠ s)
    (hQ : 0 < wC S D f s D → ∀ M, (∀ a, a ≠ 45 → M a = M0 a) → Q (nI 1) M) (hK : ¬ 0 < wC S D f s D → ∀ x M, (∀ a, a ≠ 45 → M a = M0 a) → K x M) :
    ∀ (n i : Nat) (M : Mem), i ≤ 128 → 129 ≤ n + i → (∀ a, a ≠ 45 → M a = M0 a) → (∀ j, i ≤ j → j < 128 → M 45 j = nI 0 ∨ (M 45 j = nI 1 ∧ NB S D f s j)) → (0 < wC S D f s D ↔ ∃ j, i ≤ j ∧ j < 128 ∧ M 45 j = nI 1 ∧ 0 < wC S D f s j) → w_X1_canPrecede_44 n (nI f) (nI s) (nI i) M Q K := by
  intro n
  have h7 := hS.1.2
  have hp := p2_le h7
  have n01 : nI 0 ≠ nI 1 := by decide
  induction n with
  | zero => intro i M h1 h2; omega
  | succ n ih =>
    intro i M h1 h2 hM hR hE
    unfold w_X1_canPrecede_44
    refine ⟨fun z => ?_, fun z => ?_⟩
    · rw [nI_leI (by decide) (by omega)] at z
      refine hK (fun w => ?_) _ M hM
      obtain ⟨j, j1, j2, _⟩ := hE.mp w
      omega
    · rw [nI_leI (by decide) (by omega)] at z
      have hi : i < 128 := by omega
      have hC0 : M 40 0 = nI (S 0) := by rw [hM 40 (by decide)]; exact hP.2.1.1
      rw [nI_clamp (by omega)]
      refine ⟨vp_in_nI hi (by decide), fun c => ?_, fun c => ?_⟩
      · have c0 : M 45 i = nI 0 := by rw [c]; exact nI_0.symm
        rw [nbit (by decide) (by omega), bit_clr 0 (by decide) s (by omega)]
        refine ⟨fun _ => ?_, fun y => absurd y (by simp)⟩
        unfold w_X1_reachFrom
        refine lq_reach (M0 := M) h7 hC0 (by simp) hi (fun x M1 f1 r1 r2 => ?_) FU 0 M (Nat.zero_le _) (by show _ ≤ 1000 + 0; omega) (fun _ _ => rfl) (fun e ⟨b, b1, _⟩ => by omega) (fun _ _ => rfl)
        rintro _ rfl
        rw [nI_add]
        have same : ∀ e, M1 45 e = M 45 e := fun e => r2 e (fun ⟨b, b1, b2, _⟩ => by simp at b2)
        refine ih (i + 1) M1 (by omega) (by omega) (fun a ha => by rw [f1 a ha]; exact hM a ha) (fun j q1 q2 => by rw [same]; exact hR j (by omega) q2) ?_
        rw [hE]
        refine ⟨fun ⟨j, j1, j2, j3, j4⟩ => ⟨j, ?_, j2, by rw [same]; exact j3, j4⟩, fun ⟨j, j1, j2, j3, j4⟩ => ⟨j, by omega, j2, by rw [← same]; exact j3, j4⟩⟩
        have : j ≠ i := fun e => by rw [e, c0] at j3; exact n01 j3
        omega
      · obtain ⟨c1, nb⟩ : M 45 i = nI 1 ∧ NB S D f s i := by
          rcases hR i (Nat.le_refl _) hi with y | y
          · rw [y] at c; exact absurd rfl c
          · exact y
        have hin := nb.1
        refine pw_stepsFrom hi ?_
        rw [hM 44 (by decide), (hP.2.2 i hin).2, ldS_e]
        have hlt : bsB (ldB S i) (S 0) < 128 := Nat.lt_of_lt_of_le (bsB_lt _ _) hp
        have ht : ∀ b, b < S 0 → (bsB (ldB S i) (S 0)).testBit b = ldB S i b := fun b hb => by rw [bsB_t, decide_eq_true hb, Bool.true_and]
        rw [nbit hlt (by omega), ht f hf, bit_clr _ hlt s (by omega)]
        have hstep := wC_step hS hf hs hfs nb
        refine ⟨fun nl => ?_, fun yl => ?_⟩
        · have hu := bit_cl_lt _ hlt s (by omega)
          have hut := fun b (hb : b < S 0) => bit_cl_t _ hlt s (by omega) b (by omega)
          generalize hU : (if (bsB (ldB S i) (S 0)).testBit s = true then bsB (ldB S i) (S 0) - 2 ^ s else bsB (ldB S i) (S 0)) = U at hu hut ⊢
          have hur : ∀ e, rch U i (S 0) e ↔ ∃ b, b < S 0 ∧ b ≠ s ∧ b ≠ f ∧ ldB S i b = true ∧ e = i ||| 2 ^ b := by
            intro e
            refine ⟨fun ⟨b, b1, b2, b3⟩ => ?_, fun ⟨b, b1, b2, b3, b4, b5⟩ => ⟨b, b1, ?_, b5⟩⟩
            · rw [hut b b1, ht b b1, Bool.and_eq_true] at b2
              refine ⟨b, b1, by simpa using b2.1, fun q => nl (by rw [← q]; exact b2.2), b2.2, b3⟩
            · rw [hut b b1, ht b b1, Bool.and_eq_true]
              exact ⟨by simpa using b2, b4⟩
          unfold w_X1_reachFrom
          refine lq_reach (M0 := M) h7 hC0 hu hi (fun x M1 f1 r1 r2 => ?_) FU 0 M (Nat.zero_le _) (by show _ ≤ 1000 + 0; omega) (fun _ _ => rfl) (fun e ⟨b, b1, _⟩ => by omega) (fun _ _ => rfl)
          rintro _ rfl
          rw [nI_add]
          have fact : ∀ b, b < S 0 → b ≠ s → b ≠ f → ldB S i b = true → NB S D f s (i ||| 2 ^ b) ∧ i < i ||| 2 ^ b := by
            intro b b1 b2 b3 b4
            obtain ⟨l1, l2, l3, l4, l5⟩ := ld_facts hS hin b1 b4
            refine ⟨⟨l3, sub_or nb.2.1 b, ?_, ?_⟩, l4⟩
            · rw [bit_or_t i hi b (by omega) f (by omega), nb.2.2.1, decide_eq_false (fun q => b3 q.symm)]; rfl
            · rw [bit_or_t i hi b (by omega) s (by omega), nb.2.2.2, decide_eq_false (fun q => b2 q.symm)]; rfl
          refine ih (i + 1) M1 (by omega) (by omega) (fun a ha => by rw [f1 a ha]; exact hM a ha) (fun j q1 q2 => ?_) ?_
          · by_cases r : rch U i (S 0) j
            · refine Or.inr ⟨r1 j r, ?_⟩
              obtain ⟨b, b1, b2, b3, b4, rfl⟩ := (hur j).mp r
              exact (fact b b1 b2 b3 b4).1
            · rw [r2 j r]; exact hR j (by omega) q2
          · rw [hE]
            refine ⟨fun ⟨j, j1, j2, j3, j4⟩ => ?_, fun ⟨j, j1, j2, j3, j4⟩ => ?_⟩
            · by_cases e : j = i
              · subst e
                rcases hstep.mp j4 with y | ⟨b, b1, b2, b3, b4, b5⟩
                · exact absurd y nl
                · obtain ⟨g1, g2⟩ := fact b b1 b2 b3 b4
                  exact ⟨j ||| 2 ^ b, by omega, bit_or_lt j hi b (by omega), r1 _ ((hur _).mpr ⟨b, b1, b2, b3, b4, rfl⟩), b5⟩
              · refine ⟨j, by omega, j2, ?_, j4⟩
                by_cases r : rch U i (S 0) j
                · exact r1 j r
                · rw [r2 j r]; exact j3
            · by_cases r : rch U i (S 0) j
              · obtain ⟨b, b1, b2, b3, b4, rfl⟩ := (hur j).mp r
                exact ⟨i, Nat.le_refl _, hi, c1, hstep.mpr (Or.inr ⟨b, b1, b2, b3, b4, j4⟩)⟩
              · exact ⟨j, by omega, j2, by rw [← r2 j r]; exact j3, j4⟩
        · exact hQ (hE.mpr ⟨i, Nat.le_refl _, hi, c1, hstep.mpr (Or.inl yl)⟩) M hM
theorem pw_canPrecede {M : Mem} {S : Nat → Nat} {D f s : Nat} {Q : Int32 → Mem → Prop} (hS : CV S) (hP : PLNS M S) (hf : f < S 0) (hs : s < S 0) (hfs : f ≠ s) (hD : NB S D f s D) (h1 : 0 < wC S D f s D → ∀ M', (∀ a, a ≠ 45 → M' a = M a) → Q (nI 1) M') (h0 : ¬ 0 < wC S D f s D → ∀ M', (∀ a, a ≠ 45 → M' a = M a) → Q (nI 0) M') : w_X1_canPrecede (nI D) (nI f) (nI s) M Q := by
  unfold w_X1_canPrecede
  have h7 := hS.1.2
  have hp := p2_le h7
  have hD7 : D < 128 := by have := hD.1; omega
  refine lq_cp3 (M0 := M) (fun x M1 f1 t1 => ?_) hD7 FU 0 M (Nat.zero_le _) (by show _ ≤ 1000 + 0; omega) (fun _ _ => rfl) (fun j hj => by omega)
  rintro _ rfl
  have em : (if nI 0 < nI D then nI D else nI 0) = nI D := by
    by_cases c : 0 < D
    · rw [if_pos (by rw [nI_ltI (by decide) (by omega)]; exact c)]
    · rw [if_neg (by rw [nI_ltI (by decide) (by omega)]; exact c), show D = 0 by omega]
  rw [em]
  have hP1 : PLNS M1 S := ⟨by rw [f1 31 (by decide)]; exact hP.1, hP.2.1.kept (f1 _ (by decide)) (f1 _ (by decide)) (f1 _ (by decide)), fun d q => by rw [f1 43 (by decide), f1 44 (by decide)]; exact hP.2.2 d q⟩
  have tr : ∀ M2 : Mem, (∀ a, a ≠ 45 → M2 a = M1 a) → ∀ a, a ≠ 45 → M2 a = M a := fun M2 f2 a ha => by rw [f2 a ha]; exact f1 a ha
  refine lq_cp44 (M0 := M1) (D := D) hS hP1 hf hs hfs (fun w M2 f2 => h1 w M2 (tr M2 f2)) (fun w x M2 f2 => h0 w M2 (tr M2 f2)) FU D M1 (by omega) (by show _ ≤ 1000 + _; omega) (fun _ _ => rfl) (fun j q1 q2 => ?_) ⟨fun w => ⟨D, Nat.le_refl _, hD7, by rw [t1 D hD7, if_pos rfl], w⟩, fun ⟨j, j1, j2, j3, j4⟩ => ?_⟩
  · rw [t1 j q2]
    by_cases e : j = D
    · subst e; rw [if_pos rfl]; exact Or.inr ⟨rfl, hD⟩
    · rw [if_neg e]; exact Or.inl rfl
  · rw [t1 j j2] at j3
    by_cases e : j = D
    · rw [← e]
      rw [e] at j4 ⊢
      exact j4
    · rw [if_neg e] at j3
      exact absurd j3 (by decide)
