/-! the law's does: each act answers -1005 or more -/
theorem and_pos (v : Int32) : ¬ (v &&& nI 2147483647) < 0 := by
  intro h
  have h1 := Int32.lt_iff_toInt_lt.mp h
  have h2 : (v &&& nI 2147483647).toBitVec.msb = true := by
    rw [BitVec.msb_eq_toInt]
    exact decide_eq_true h1
  rw [Int32.toBitVec_and, BitVec.msb_and] at h2
  have h3 : (nI 2147483647).toBitVec.msb = false := by decide
  rw [h3, Bool.and_false] at h2
  cases h2
theorem pl_low {v : Int32} {n : Nat} {M : Mem} {Q : Int32 → Mem → Prop} (h0 : 0 < n) (hn : n < 2 ^ 31) (hQ : ∀ j, j < n → Q (nI j) M) : w_L_low v (nI n) M Q := by
  unfold w_L_low
  obtain ⟨j, hj, e⟩ := nI_of (and_pos v)
  rw [e, pk_rem hj h0 hn]
  exact ⟨(nI_nz hn).mpr (by omega), hQ _ (Nat.mod_lt _ h0)⟩
theorem char7 : ∀ s, s < 7 → (((nI 49) + nI s).toUInt32 % 65536).toInt32 = nI (49 + s) := by decide +kernel
def txO (c : GN) (t : Nat) : Prop := ∀ i, i < t → (i % 2 = 0 → 49 ≤ c i ∧ c i ≤ 57) ∧ (i % 2 ≠ 0 → c i = 117 ∨ c i = 100)
theorem txO_push {c : GN} {t x : Nat} (h : txO c t) (hx : (t % 2 = 0 → 49 ≤ x ∧ x ≤ 57) ∧ (t % 2 ≠ 0 → x = 117 ∨ x = 100)) : txO (upG c t x) (t + 1) := by
  intro i hi
  unfold upG
  by_cases e : i = t
  · subst e; rw [if_pos rfl]; exact hx
  · rw [if_neg e]; exact h i (by omega)
theorem lq_text {G : GN} {ko : Option GN} {m : Nat} {a x5 : Int32} {K : Int32 → Mem → Prop} (hm : 1 ≤ m ∧ m ≤ 5) (hK : ∀ M' c', ST M' G ko (2 * m + 1) c' → txO c' (2 * m + 1) → K (nI (m + 1)) M') :
    ∀ (n k : Nat) (M : Mem) (c : GN) (t : Nat), k ≤ m + 1 → m + 2 ≤ n + k → (k ≤ m → t = 2 * k) → (m < k → t = 2 * m + 1) → ST M G ko t c → txO c t → w_L_does_248 n a x5 (nI m) (nI k) M K := by
  intro n
  induction n with
  | zero => intro k M c t h1 h2; omega
  | succ n ih =>
    intro k M c t h1 h2 e1 e2 h ht
    unfold w_L_does_248
    refine ⟨fun z => ?_, fun z => ?_⟩
    · rw [nI_ltI (by omega) (by omega)] at z
      have e : k = m + 1 := by omega
      subst e
      have := e2 z
      subst this
      exact hK M c h ht
    · rw [nI_ltI (by omega) (by omega)] at z
      have et := e1 (by omega)
      refine pl_low (by decide) (by decide) (fun s hs => ?_)
      rw [char7 s hs]
      refine pc_type h (by omega) (by omega) (fr_ST (fun M1 h1' _ => ?_))
      have t1 : txO (upG c t (49 + s)) (t + 1) := txO_push ht ⟨fun _ => by omega, fun q => by omega⟩
      refine ⟨fun M => ∃ (c' : GN) (t' : Nat), (k + 1 ≤ m → t' = 2 * (k + 1)) ∧ (m < k + 1 → t' = 2 * m + 1) ∧ ST M G ko t' c' ∧ txO c' t', ?_, ?_⟩
      · rintro M2 ⟨c', t', a1, a2, a3, a4⟩
        rintro _ rfl
        rw [nI_add]
        exact ih (k + 1) M2 c' t' (by omega) (by omega) a1 a2 a3 a4
      · refine ⟨fun q => ?_, fun q => ?_⟩
        · rw [nI_leI (by omega) (by omega)] at q
          exact ⟨_, t + 1, fun _ => by omega, fun _ => by omega, h1', t1⟩
        · rw [nI_leI (by omega) (by omega)] at q
          refine ⟨fun b M => (b = nI 100 ∨ b = nI 117) ∧ ST M G ko (t + 1) (upG c t (49 + s)), ?_, fun _ => ⟨Or.inl rfl, h1'⟩, fun _ => ⟨Or.inr rfl, h1'⟩⟩
          rintro b M2 ⟨hb, h2'⟩
          rcases hb with rfl | rfl
          · exact pc_type h2' (by decide) (by omega) (fr_ST (fun M3 h3' _ => ⟨_, t + 1 + 1, fun _ => by omega, fun _ => by omega, h3', txO_push t1 ⟨fun _ => by omega, fun _ => Or.inr rfl⟩⟩))
          · exact pc_type h2' (by decide) (by omega) (fr_ST (fun M3 h3' _ => ⟨_, t + 1 + 1, fun _ => by omega, fun _ => by omega, h3', txO_push t1 ⟨fun _ => by omega, fun _ => Or.inl rfl⟩⟩))
theorem txO_ok {c : GN} {m : Nat} (hm : 1 ≤ m ∧ m ≤ 5) (h : txO c (2 * m + 1)) : okT c (2 * m + 1) :=
  ⟨fun i hi => ⟨by omega, (h i hi).1, (h i hi).2⟩, by omega, by omega⟩
set_option maxHeartbeats 4000000 in
theorem pl_does {a : Int32} {M : Mem} {G : GN} {ko : Option GN} {t : Nat} {c : GN} {Q : Int32 → Mem → Prop} (h : ST M G ko t c) (hQ : ∀ v G' t' c' M', okv v → ST M' G' ko t' c' → Q v M') : w_L_does a M Q := by
  unfold w_L_does
  have h7 := h.v.1.2
  have h71 := h.v.1.1
  have frQ : ∀ (M1 : Mem) v G' M', okv v → ST M' G' ko t c → fr M1 (fun v M => Q v M) v M' := fun M1 v G' M' o h' => hQ v G' t c _ o h'.frm
  refine pc_count0 h (fr_ST (fun M1 h1 _ => ?_) M h)
  refine pl_low (by omega) (by omega) (fun b hb => ?_)
  rintro y5 -
  have two : ∀ (v : Nat), v ≤ G 0 → w_L_low (a >>> ((nI 8) &&& 31)) (nI 9) M1 (fun v9 M10 => w_X6_setLength (nI v) ((nI 1) + v9) M10 (fr M10 (fun v11 M12 => Q v11 M12))) := by
    intro f hf
    refine pl_low (by decide) (by decide) (fun x hx => ?_)
    rw [nI_add]
    exact pc_setLength h1 hf ⟨by omega, by omega⟩ (frQ M1)
  have lay : w_X6_layOver M1 (fr M1 (fun v48 M49 => Q v48 M49)) := pc_layOver h1 (fun M' h' => hQ _ _ _ _ _ (okv_nI (by omega)) h'.frm)
  have ben : w_X6_bend (nI b) M1 (fr M1 (fun v54 M55 => Q v54 M55)) := pc_bend h1 hb (fun _ M' h' => hQ _ _ _ _ _ (okv_nI (by have := pcn_le _ (bit_or_lt (G 16) h.v.d b (by omega)); omega)) h'.frm) (fun _ M' h' => hQ _ _ _ _ _ okv_not h'.frm)
  have fol : w_L_low (a >>> ((nI 4) &&& 31)) (nI 3) M1 (fun v66 M67 => w_X6_follow ((nI 1) + v66) M67 (fr M67 (fun v68 M69 => Q v68 M69))) := by
    refine pl_low (by decide) (by decide) (fun x hx => ?_)
    rw [nI_add]
    exact pc_follow h1 ⟨by omega, by omega⟩ (fun _ M' h' => hQ _ _ _ _ _ okv_not h'.frm) (fun _ _ M' h' => hQ _ _ _ _ _ okv_none h'.frm) (fun _ _ => frQ M1)
  refine ⟨fun _ => ?_, fun _ => ⟨fun _ => ?_, fun _ => ⟨fun _ => ?_, fun _ => ⟨fun _ => ?_, fun _ => ⟨fun _ => lay, fun _ => ⟨fun _ => lay, fun _ => ⟨fun _ => ben, fun _ => ⟨fun _ => ben, fun _ => ⟨fun _ => ben, fun _ => ⟨fun _ => ?_, fun _ => ⟨fun _ => fol, fun _ => ⟨fun _ => fol, fun _ => ?_⟩⟩⟩⟩⟩⟩⟩⟩⟩⟩⟩⟩
  · rw [nI_add]
    exact pl_low (by omega) (by omega) (fun f hf => two f (by omega))
  · rw [nI_add]
    exact pl_low (by omega) (by omega) (fun f hf => two f (by omega))
  · refine ⟨fun b M => (b = nI 0 ∨ b = nI 1) ∧ ST M G ko t c, ?_, fun _ => ⟨Or.inl rfl, h1⟩, fun _ => ⟨Or.inr rfl, h1⟩⟩
    rintro x M2 ⟨hx, h2⟩
    rcases hx with rfl | rfl
    · exact pc_setUp h2 hb (by decide) (frQ M2)
    · exact pc_setUp h2 hb (by decide) (frQ M2)
  · refine pl_low (by decide) (by decide) (fun w hw => ?_)
    refine ⟨fun b M => (∃ x, loS w ≤ x ∧ x ≤ hiS w ∧ b = nI x) ∧ ST M G ko t c, ?_, ?_⟩
    · rintro _ M2 ⟨⟨x, x1, x2, rfl⟩, h2⟩
      exact pc_set h2 hw ⟨x1, x2⟩ (frQ M2)
    · rw [z_in (by omega), e_in (by omega) (by decide), e_in (by omega) (by decide)]
      refine ⟨fun w0 => ⟨fun w1 => ?_, fun w1 => ?_⟩, fun w0 => ?_⟩
      · have lo : loS w = 0 := by unfold loS; rw [if_neg w0]
        have hi : hiS w = 9 := by unfold hiS; rw [if_neg w0, if_neg w1]
        refine ⟨fun b M => (b = nI 4 ∨ b = nI 10) ∧ ST M G ko t c, ?_, fun _ => ⟨Or.inr rfl, h1⟩, fun _ => ⟨Or.inl rfl, h1⟩⟩
        rintro x M2 ⟨hx, h2⟩
        rcases hx with rfl | rfl
        · exact pl_low (by decide) (by decide) (fun x hx => ⟨⟨x, by omega, by omega, rfl⟩, h2⟩)
        · exact pl_low (by decide) (by decide) (fun x hx => ⟨⟨x, by omega, by omega, rfl⟩, h2⟩)
      · subst w1
        exact pl_low (by decide) (by decide) (fun x hx => ⟨⟨x, Nat.zero_le _, by show x ≤ 3; omega, rfl⟩, h1⟩)
      · subst w0
        refine pl_low (by decide) (by decide) (fun x hx => ⟨⟨1 + x, by show 1 ≤ 1 + x; omega, by show 1 + x ≤ 12; omega, nI_add 1 x⟩, h1⟩)
  · exact pc_flatten h1 hb (frQ M1)
  · have ht := h1.2.2.2.2.1.1
    refine pc_clearText h1 (fr_ST (fun M2 h2 _ => ?_))
    refine pl_low (by decide) (by decide) (fun j hj => ?_)
    rw [nI_add]
    rintro _ rfl
    refine lq_text (m := 1 + j) (G := G) (ko := ko) ⟨by omega, by omega⟩ (fun M3 c3 h3 t3 => ?_) FU 0 M2 c 0 (Nat.zero_le _) (by show _ ≤ 1000 + 0; omega) (fun _ => rfl) (fun z => by omega) h2 (fun i hi => by omega)
    refine pc_takeStrip h3 (txO_ok ⟨by omega, by omega⟩ t3) (fun G' M' h' => fr_ST (fun M4 h4 _ => ?_) M' h')
    rw [show (2 * (1 + j) + 1) / 2 = 1 + j by omega]
    exact ⟨fun z => absurd rfl z, fun _ => hQ _ _ _ _ _ (okv_nI (by omega)) h4⟩
