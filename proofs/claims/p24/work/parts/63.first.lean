/-! the law's isOrderSo: always so -/
theorem wS_full {S : GN} (hS : CV S) : wS S (2 ^ S 0 - 1) = 1 := by
  have h7 := hS.1.2
  have hp := Nat.one_le_two_pow (n := S 0)
  rw [wS_fix hS (by omega), if_pos rfl, smB_zero (S 0) (fun b hb => ?_)]
  rw [if_neg]
  intro q
  have := okS_P S (S 0) b _ hb (by omega) q
  rw [full_t _ (by omega) b hb] at this
  cases this
theorem tu_le (S : GN) (d v : Nat) : ∀ k, tuF S d v k ≤ k
  | 0 => Nat.le_refl 0
  | k + 1 => by
    show tuF S d v k + (if S (9 + fs S (sqF S d k)) = ovF S d v k then 1 else 0) ≤ k + 1
    have := tu_le S d v k
    split <;> omega
theorem tu_mono (S : GN) (d v k : Nat) : ∀ i, tuF S d v k ≤ tuF S d v (k + i)
  | 0 => Nat.le_refl _
  | i + 1 => by
    have := tu_mono S d v k i
    show tuF S d v k ≤ tuF S d v (k + i) + _
    omega
theorem pc_order' {M : Mem} {G : GN} {ko : Option GN} {t p : Nat} {c : GN} {Q : Int32 → Mem → Prop} (h : ST M G ko t c) (hp : p < 2 ^ 31)
    (hQ : ∀ x M', ST M' G ko t c → (wS (cor G) (G 16) = 0 → x = -1004) → (0 < wS (cor G) (G 16) → p < G 0 - pcn (G 16) → x = nI (fs (cor G) (sqF (cor G) (G 16) p))) → (0 < wS (cor G) (G 16) → G 0 - pcn (G 16) ≤ p → x = -1005) → Q x M') : w_X6_order (nI p) M Q :=
  pc_order h hp (fun w M' h' => hQ _ M' h' (fun _ => rfl) (fun q => absurd w (by omega)) (fun q => absurd w (by omega)))
    (fun w q M' h' => hQ _ M' h' (fun z => absurd w (by omega)) (fun _ _ => rfl) (fun _ z => absurd q (by omega)))
    (fun w q M' h' => hQ _ M' h' (fun z => absurd w (by omega)) (fun _ z => absurd q (by omega)) (fun _ _ => rfl))
theorem ST.row {M : Mem} {G : GN} {ko : Option GN} {t N : Nat} {c : GN} {f : Nat → Int32} (h : ST M G ko t c) (hN : 46 ≤ N) : ST (um M N f) G ko t c :=
  h.work (fun a ha => um_n (by omega)) (h.pln.kept (um_n (by omega)) (um_n (by omega)) (um_n (by omega)) (um_n (by omega)) (um_n (by omega)) (um_n (by omega)))
theorem lq_row {G : GN} {ko : Option GN} {t N : Nat} {c : GN} {x1 x3 x4 x5 : Int32} {K : Int32 → Mem → Prop} (hN : 46 ≤ N) (hw : 0 < wS (cor G) (G 16)) (hpc : pcn (G 16) ≤ G 0)
    (hK : ∀ M', ST M' G ko t c → (∀ i, i < G 0 - pcn (G 16) → M' N i = nI (fs (cor G) (sqF (cor G) (G 16) i))) → K (nI (G 0 - pcn (G 16))) M') :
    ∀ (n k : Nat) (M : Mem), k ≤ G 0 - pcn (G 16) → G 0 - pcn (G 16) + 1 ≤ n + k → ST M G ko t c → (∀ i, i < k → M N i = nI (fs (cor G) (sqF (cor G) (G 16) i))) → w_L_isOrderSo_139 N n x1 (nI (G 0 - pcn (G 16))) x3 x4 x5 (nI k) M K := by
  intro n
  induction n with
  | zero => intro k M h1 h2; omega
  | succ n ih =>
    intro k M hk hn h hr
    have h7 := h.v.1.2
    unfold w_L_isOrderSo_139
    refine ⟨fun z => ?_, fun z => ?_⟩
    · rw [nI_leI (by omega) (by omega)] at z
      have e : k = G 0 - pcn (G 16) := by omega
      subst e
      exact hK M h hr
    · rw [nI_leI (by omega) (by omega)] at z
      refine pc_order' h (by omega) (fun x M1 h1 _ hx _ => fr_ST (fun M2 h2 f2 => ?_) M1 h1)
      have ex := hx hw (by omega)
      refine ⟨vp_in_nI (by omega) (by decide), ?_⟩
      rintro M3 e3 _ rfl
      rw [nI_add]
      rw [nI_clamp (by omega)] at e3
      refine ih (k + 1) M3 (by omega) (by omega) (by rw [e3]; exact h2.row hN) (fun i hi => ?_)
      rw [e3, um_s, upd_a]
      by_cases e : i = k
      · rw [if_pos e, e]; exact ex
      · rw [if_neg e, f2 N hN]; exact hr i (by omega)
/-- the state along the first order -/
def AL (M : Mem) (G : GN) (t : Nat) (c : GN) (N k : Nat) : Prop := ∃ Gk, ST M Gk (some G) t c ∧ cor Gk = cor G ∧ Gk 16 = sqF (cor G) (G 16) k ∧ Gk 17 = ovF (cor G) (G 16) (G 17) k ∧ ∀ i, i < G 0 - pcn (G 16) → M N i = nI (fs (cor G) (sqF (cor G) (G 16) i))
set_option maxHeartbeats 4000000 in
theorem lq_along {G : GN} {t N : Nat} {c : GN} {x1 : Int32} {K : Int32 → Int32 → Int32 → Mem → Prop} (hN : 46 ≤ N) (hV : VG G) (hw : 0 < wS (cor G) (G 16))
    (hK : ∀ M', AL M' G t c N (G 0 - pcn (G 16)) → K (nI 0) (nI 1) (nI (G 0 - pcn (G 16))) M') :
    ∀ (n k : Nat) (M : Mem), k ≤ G 0 - pcn (G 16) → G 0 - pcn (G 16) + 1 ≤ n + k → AL M G t c N k → w_L_isOrderSo_217 N n x1 (nI (G 0 - pcn (G 16))) (nI (tuF (cor G) (G 16) (G 17) (G 0 - pcn (G 16)) - tuF (cor G) (G 16) (G 17) k)) (nI 1) (nI (pcn (G 16))) (nI k) M K := by
  intro n
  have h7 := hV.1.2
  have h17 := hV.2.2.2.2.1
  have hd : G 16 < 2 ^ cor G 0 := by rw [cor_0]; exact hV.2.2.2.1
  have hpc : pcn (G 16) ≤ G 0 := (pcn_full (G 0) (by omega) _ hV.2.2.2.1).1
  have hS := hV.cv
  induction n with
  | zero => intro k M h1 h2; omega
  | succ n ih =>
    intro k M hk hn hA
    unfold w_L_isOrderSo_217
    refine ⟨fun z => ?_, fun z => ?_⟩
    · rw [nI_leI (by omega) (by omega)] at z
      have e : k = G 0 - pcn (G 16) := by omega
      subst e
      rw [Nat.sub_self]
      exact hK M hA
    rw [nI_leI (by omega) (by omega)] at z
    have hkl : k < G 0 - pcn (G 16) := by omega
    obtain ⟨Gk, h, gc, g16, g17, hrow⟩ := hA
    have g0 : Gk 0 = G 0 := by rw [← cor_0 Gk, gc, cor_0]
    obtain ⟨q1, q2, q3, q4⟩ := sq_ok hS hd hw k (by rw [cor_0]; omega)
    have nf := sq_nf hS hd hw (k := k) (by rw [cor_0]; omega)
    obtain ⟨f1, f2, f3⟩ := fs_ok hS q1 nf q3
    obtain ⟨l1, l2, l3, l4, l5⟩ := ld_facts hS q1 f1 f2
    have hu := hS.2.2.1 _ f1
    have ho := ov_le (S := cor G) (d := G 16) h17 k
    have hokb : okS (cor G) (fs (cor G) (sqF (cor G) (G 16) k)) (sqF (cor G) (G 16) k) = true := by
      have := f2
      unfold ldB at this
      rw [Bool.and_eq_true] at this
      exact this.1
    have hr2 := rsn_2 (S := cor G) (v := ovF (cor G) (G 16) (G 17) k) l1
    have hrl := rsn_le (cor G) (fs (cor G) (sqF (cor G) (G 16) k)) (sqF (cor G) (G 16) k) (ovF (cor G) (G 16) (G 17) k)
    have et : tuF (cor G) (G 16) (G 17) (k + 1) = tuF (cor G) (G 16) (G 17) k + (if cor G (9 + fs (cor G) (sqF (cor G) (G 16) k)) = ovF (cor G) (G 16) (G 17) k then 1 else 0) := rfl
    have eo : ovF (cor G) (G 16) (G 17) (k + 1) = 1 - cor G (9 + fs (cor G) (sqF (cor G) (G 16) k)) := rfl
    have es : sqF (cor G) (G 16) (k + 1) = sqF (cor G) (G 16) k ||| 2 ^ fs (cor G) (sqF (cor G) (G 16) k) := rfl
    have hm := tu_mono (cor G) (G 16) (G 17) (k + 1) (G 0 - pcn (G 16) - (k + 1))
    rw [show k + 1 + (G 0 - pcn (G 16) - (k + 1)) = G 0 - pcn (G 16) by omega] at hm
    have hT := tu_le (cor G) (G 16) (G 17) (G 0 - pcn (G 16))
    have rk := hrow k hkl
    have ihk := ih (k + 1)
    rw [et] at ihk hm
    rw [nI_clamp (show k < 2 ^ 31 by omega), rk]
    have hv : vp_in (nI k) 7 := vp_in_nI (by omega) (by decide)
    have hpk : pcn (sqF (cor G) (G 16) k) = pcn (G 16) + k := q4
    have f1' := f1
    rw [cor_0] at f1'
    refine ⟨hv, pc_ofBend2 h (by rw [g0]; exact f1') (fr_ST (fun M1 h1 k1 => ?_))⟩
    rw [gc, g16, g17]
    generalize tuF (cor G) (G 16) (G 17) (G 0 - pcn (G 16)) = T0 at ihk hm hT ⊢
    generalize hbk : fs (cor G) (sqF (cor G) (G 16) k) = bk at f1 f1' f2 f3 l1 l2 l3 l4 l5 hu hokb hr2 hrl eo es hm ihk rk ⊢
    have rows1 : ∀ M' : Mem, (∀ a, 46 ≤ a → M' a = M a) → ∀ i, i < G 0 - pcn (G 16) → M' N i = nI (fs (cor G) (sqF (cor G) (G 16) i)) := fun M' e i hi => by rw [e N hN]; exact hrow i hi
    refine ⟨fun x M2 => x = nI (T0 - (tuF (cor G) (G 16) (G 17) k + (if cor G (9 + bk) = ovF (cor G) (G 16) (G 17) k then 1 else 0))) ∧ ∃ G1, ST M2 G1 (some G) t c ∧ cor G1 = cor G ∧ G1 16 = sqF (cor G) (G 16) k ∧ G1 17 = 1 - cor G (9 + bk) ∧ ∀ a, 46 ≤ a → M2 a = M a, ?_, ?_⟩
    rotate_left
    · rw [e_in (by omega) (by decide), hr2]
      refine ⟨fun q => ?_, fun q => ?_⟩
      · rw [if_neg q]
        exact ⟨rfl, Gk, h1, gc, g16, by rw [g17]; omega, k1⟩
      · refine pc_layOver h1 (fr_ST (fun M2 h2 k2 => ?_))
        rw [if_pos q] at hm ⊢
        rintro _ rfl
        refine ⟨?_, _, h2, by rw [cor_up (by rw [g0]; exact h7) (by omega), gc], by rw [upG_n (by decide), g16], by rw [upG_s, g17, q], fun a ha => by rw [k2 a ha]; exact k1 a ha⟩
        rw [show T0 - tuF (cor G) (G 16) (G 17) k = (T0 - (tuF (cor G) (G 16) (G 17) k + 1)) + 1 by omega, pk_m1]
    rintro _ M2 ⟨rfl, G1, h2, gc1, g161, g171, k2⟩
    have g01 : G1 0 = G 0 := by rw [← cor_0 G1, gc1, cor_0]
    refine ⟨fun b M3 => b = nI 1 ∧ AL M3 G t c N (k + 1), ?_, ?_⟩
    · rintro _ M3 ⟨rfl, h3⟩
      rintro _ rfl
      rw [nI_add]
      exact ihk M3 (by omega) (by omega) h3
    · refine ⟨fun q => absurd q (by decide), fun _ => ?_⟩
      refine pc_order' h2 (by decide) (fun x M3 h3 _ hx _ => fr_ST (fun M4 h4 k4 => ?_) M3 h3)
      have ex := hx (by rw [gc1, g161]; exact q3) (by rw [g01, g161, hpk]; omega)
      rw [gc1, g161] at ex
      have ex : x = nI bk := by rw [ex, ← hbk]; rfl
      have row4 : M4 N k = nI bk := by rw [k4 N hN, k2 N hN]; exact rk
      rw [row4]
      refine ⟨hv, fun q => absurd ex q, fun _ => ⟨hv, ?_⟩⟩
      refine pc_ofBend2 h4 (by rw [g01]; exact f1') (fr_ST (fun M5 h5 k5 => ?_))
      have e0 : rsn (cor G1) bk (G1 16) (G1 17) = 0 := by
        rw [gc1, g161, g171]
        unfold okS at hokb
        exact of_decide_eq_true hokb
      rw [e0]
      have row5 : M5 N k = nI bk := by rw [k5 N hN]; exact row4
      refine ⟨fun q => absurd rfl q, fun _ => ⟨hv, ?_⟩⟩
      rw [row5]
      refine pc_bend h5 (by rw [g01]; exact f1') (fun _ => fr_ST (fun M6 h6 k6 => ?_)) (fun w => absurd e0 w)
      rw [g161, l5, hpk, nI_add, nI_add]
      refine ⟨fun q => absurd rfl q, fun _ => ⟨rfl, bdG G1 bk, h6, by rw [cor_bd (by rw [g01]; exact h7), gc1], by rw [bdG_16, g161, es], by rw [bdG_o (by decide) (by decide), g171, eo], rows1 M6 (fun a ha => by rw [k6 a ha, k5 a ha, k4 a ha]; exact k2 a ha)⟩⟩
set_option maxHeartbeats 4000000 in
theorem pl_isOrderSo {M : Mem} {G : GN} {ko : Option GN} {t N : Nat} {c : GN} {Q : Int32 → Mem → Prop} (hN : 46 ≤ N) (h : ST M G ko t c) (hQ : ∀ ko' M', ST M' G ko' t c → Q (nI 1) M') : w_L_isOrderSo N M Q := by
  unfold w_L_isOrderSo
  have h7 := h.v.1.2
  have h17 := h.v.2.2.2.2.1
  have hd := h.d
  have hpc := h.pc
  have hwl := wS_lt h.v.cv hd
  refine pc_orders h (fr_ST (fun M1 h1 _ => ?_))
  refine pc_count0 h1 (fr_ST (fun M2 h2 _ => ?_) M1 h1)
  refine pc_count1 h2 (fr_ST (fun M3 h3 _ => ?_) M2 h2)
  rintro _ rfl
  rw [pk_sub hpc]
  rcases Nat.eq_zero_or_pos (wS (cor G) (G 16)) with hw | hw
  · refine pc_count5 h3 (fun w => absurd hw (by omega)) (fun _ => fr_ST (fun M4 h4 _ => ?_))
    refine pc_order' h4 (by decide) (fun x M5 h5 hx _ _ => fr_ST (fun M6 h6 _ => ?_) M5 h5)
    have ex := hx hw
    rw [hw]
    refine ⟨fun z => absurd rfl z, fun _ => ?_⟩
    refine pc_count3 h6 (fr_ST (fun M7 h7' _ => ?_))
    rw [if_neg (by omega)]
    refine ⟨fun z => absurd rfl z, fun _ => ⟨fun z => absurd rfl z, fun _ => ⟨fun z => absurd ex z, fun _ => ?_⟩⟩⟩
    exact pc_follow h7' ⟨by decide, by decide⟩ (fun _ => fr_ST (fun M8 h8 _ => ⟨fun z => absurd rfl z, fun _ => hQ _ M8 h8⟩)) (fun w => absurd hw (by omega)) (fun w => absurd hw (by omega))
  · have hT := tu_le (cor G) (G 16) (G 17) (G 0 - pcn (G 16))
    refine pc_count5 h3 (fun _ => fr_ST (fun M4 h4 _ => ?_)) (fun w => absurd w (by omega))
    refine pc_order' h4 (by decide) (fun x M5 h5 _ hx _ => fr_ST (fun M6 h6 _ => ?_) M5 h5)
    have ex : 0 < G 0 - pcn (G 16) → x = nI (fs (cor G) (G 16)) := fun q => hx hw q
    refine ⟨fun _ => ?_, fun z => absurd ((nI_z hwl).mp z) (by omega)⟩
    refine pc_count3 h6 (fr_ST (fun M7 h7' _ => ?_))
    rw [if_pos hw]
    refine ⟨fun b M => b = nI 1 ∧ ST M G ko t c, ?_, fun z => absurd rfl z, fun _ => ⟨fun z => absurd z (nI_neg (by omega)), fun _ => ⟨fun z => ?_, fun _ => ?_⟩⟩⟩
    · rintro _ M8 ⟨rfl, h8⟩
      rintro M9 e9
      refine lq_row hN hw hpc (fun M10 h10 r10 => ?_) FU 0 M9 (Nat.zero_le _) (by show _ ≤ 1000 + 0; omega) (by rw [e9]; exact h8.row hN) (fun i hi => by omega)
      refine pc_keep h10 (fr_ST (fun M11 h11 k11 => ?_))
      refine pc_layOver h11 (fr_ST (fun M12 h12 k12 => ?_))
      have gc : cor (upG G 17 (1 - G 17)) = cor G := cor_up h7 (by omega)
      have g16 : upG G 17 (1 - G 17) 16 = G 16 := upG_n (by decide)
      have g0 : upG G 17 (1 - G 17) 0 = G 0 := upG_n (by decide)
      have g17 : upG G 17 (1 - G 17) 17 = 1 - G 17 := upG_s _ _ _
      refine ⟨fun b M => b = nI 1 ∧ ST M (upG G 17 (1 - G 17)) (some G) t c ∧ ∀ a, 46 ≤ a → M a = M10 a, ?_, ?_⟩
      · rintro _ M13 ⟨rfl, h13, k13⟩
        refine pc_layOver h13 (fr_ST (fun M14 h14 k14 => ?_))
        rw [upG_two, g17, show 1 - (1 - G 17) = G 17 by omega, upG_self] at h14
        have al : AL M14 G t c N 0 := ⟨G, h14, rfl, rfl, rfl, fun i hi => by rw [k14 N hN, k13 N hN]; exact r10 i hi⟩
        have e0 : tuF (cor G) (G 16) (G 17) (G 0 - pcn (G 16)) = tuF (cor G) (G 16) (G 17) (G 0 - pcn (G 16)) - tuF (cor G) (G 16) (G 17) 0 := rfl
        rw [e0]
        refine lq_along hN h.v hw (fun M15 al15 => ?_) FU 0 M14 (Nat.zero_le _) (by show _ ≤ 1000 + 0; omega) al
        obtain ⟨Gk, h15, c15, a15, -, -⟩ := al15
        have full := sq_full h.v.cv hd hw (k := G 0 - pcn (G 16)) (by rw [cor_0]; omega)
        refine ⟨fun b M => b = nI 1 ∧ ∃ Gk, ST M Gk (some G) t c, ?_, ?_⟩
        · rintro _ M16 ⟨rfl, Gk', h16⟩
          refine ⟨fun z => absurd z (by decide), fun _ => ?_⟩
          refine pc_restore h16 (fr_ST (fun M17 h17' _ => ?_))
          refine ⟨fun z => absurd rfl z, fun _ => ?_⟩
          exact pc_orders h17' (fr_ST (fun M18 h18 _ => ⟨fun z => absurd rfl z, fun _ => hQ _ M18 h18⟩))
        · refine ⟨fun z => absurd z (by decide), fun _ => ⟨fun z => absurd rfl z, fun _ => ?_⟩⟩
          refine pc_orders h15 (fr_ST (fun M16 h16 _ => ?_))
          rw [c15, a15, full, wS_full h.v.cv]
          exact ⟨fun z => absurd rfl z, fun _ => ⟨rfl, _, h16⟩⟩
      · refine ⟨fun z => absurd z (by decide), fun _ => ?_⟩
        refine pc_orders h12 (fr_ST (fun M13 h13 k13 => ?_))
        rw [gc, g16]
        have kk : ∀ a, 46 ≤ a → M13 a = M10 a := fun a ha => by rw [k13 a ha, k12 a ha]; exact k11 a ha
        refine ⟨fun z => absurd rfl z, fun _ => ⟨fun _ => ⟨rfl, h13, kk⟩, fun z => ?_⟩⟩
        have hl : 0 < G 0 - pcn (G 16) := Nat.pos_of_ne_zero (fun e => z (by rw [e]; rfl))
        refine pc_order' h13 (by decide) (fun x' M14 h14 _ hx' _ => fr_ST (fun M15 h15 k15 => ?_) M14 h14)
        have ex' := hx' (by rw [gc, g16]; exact hw) (by rw [g0, g16]; exact hl)
        rw [gc, g16] at ex'
        refine ⟨fun q => absurd (ex'.trans (ex hl).symm) q, fun _ => ⟨rfl, h15, fun a ha => by rw [k15 a ha]; exact kk a ha⟩⟩
    · rw [nI_ltI (by omega) (by omega)] at z
      omega
    · refine pc_order' h7' (by omega) (fun x' M8 h8 _ _ hx' => fr_ST (fun M9 h9 _ => ?_) M8 h8)
      refine ⟨fun z => absurd (hx' hw (Nat.le_refl _)) z, fun _ => ⟨fun _ => ⟨rfl, h9⟩, fun z => ?_⟩⟩
      have hl : pcn (G 16) = G 0 := by
        refine Classical.byContradiction fun e => z ?_
        have : nI 0 < nI (G 0 - pcn (G 16)) := by
          rw [nI_ltI (by decide) (by omega)]
          omega
        exact this
      have hf : G 16 = 2 ^ cor G 0 - 1 := by
        rw [cor_0]
        exact (pcn_full (G 0) (by omega) _ h.v.2.2.2.1).2.mp hl
      have hw1 : wS (cor G) (G 16) = 1 := by rw [hf]; exact wS_full h.v.cv
      rw [hw1]
      refine ⟨fun z => absurd rfl z, fun _ => ?_⟩
      exact pc_follow h9 ⟨by decide, by decide⟩ (fun w => absurd hw (by omega)) (fun _ _ => fr_ST (fun M10 h10 _ => ⟨fun z => absurd rfl z, fun _ => ⟨rfl, h10⟩⟩)) (fun _ w => absurd hl (by omega))
