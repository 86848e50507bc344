/-! the calls that change little: both sides answer alike -/
def upG (G : Nat → Nat) (i v : Nat) : Nat → Nat := fun j => if j = i then v else G j
theorem upG_s (G : Nat → Nat) (i v : Nat) : upG G i v i = v := if_pos rfl
theorem upG_n {G : Nat → Nat} {i j v : Nat} (h : j ≠ i) : upG G i v j = G j := if_neg h
theorem RG_set {row : Nat → Int32} {G : Nat → Nat} (h : RG row G) (i v : Nat) : RG (upd row i (nI v)) (upG G i v) := by
  intro j hj
  rw [upd_a]
  unfold upG
  by_cases e : j = i
  · rw [if_pos e, if_pos e]
  · rw [if_neg e, if_neg e]; exact h j hj
theorem CS_over {M : Mem} {G : Nat → Nat} (h : CS M 1 G) (v : Nat) : CS (um M 1 (upd (M 1) 3 (nI v))) 1 (upG G 17 v) := by
  obtain ⟨h0, ⟨u, hu, hu2, hu3⟩, h2, h3, h4, h5, h6⟩ := h
  refine ⟨?_, ⟨u, ?_, hu2, fun b hb => ?_⟩, ?_, ?_, ?_, fun f hf => ?_, fun k hk => ?_⟩
  · rw [um_s, upd_n (by decide), upG_n (by decide)]; exact h0
  · rw [um_s, upd_n (by decide)]; exact hu
  · rw [upG_n (by decide), upG_n (by omega)]; exact hu3 b hb
  · rw [um_s, upd_n (by decide), upG_n (by decide)]; exact h2
  · rw [um_s, upd_s, upG_s]
  · rw [um_s, upd_n (by decide), upG_n (by decide)]; exact h4
  · rw [um_n (by decide), upG_n (by omega)]; exact h5 f hf
  · rw [um_n (by decide), upG_n (by omega)]; exact h6 k hk
theorem CS_done {M : Mem} {G : Nat → Nat} (h : CS M 1 G) (v : Nat) : CS (um M 1 (upd (M 1) 2 (nI v))) 1 (upG G 16 v) := by
  obtain ⟨h0, ⟨u, hu, hu2, hu3⟩, h2, h3, h4, h5, h6⟩ := h
  refine ⟨?_, ⟨u, ?_, hu2, fun b hb => ?_⟩, ?_, ?_, ?_, fun f hf => ?_, fun k hk => ?_⟩
  · rw [um_s, upd_n (by decide), upG_n (by decide)]; exact h0
  · rw [um_s, upd_n (by decide)]; exact hu
  · rw [upG_n (by decide), upG_n (by omega)]; exact hu3 b hb
  · rw [um_s, upd_s, upG_s]
  · rw [um_s, upd_n (by decide), upG_n (by decide)]; exact h3
  · rw [um_s, upd_n (by decide), upG_n (by decide)]; exact h4
  · rw [um_n (by decide), upG_n (by omega)]; exact h5 f hf
  · rw [um_n (by decide), upG_n (by omega)]; exact h6 k hk
theorem CS_bdg {M : Mem} {G : Nat → Nat} (h : CS M 1 G) (v : Nat) : CS (um M 1 (upd (M 1) 4 (nI v))) 1 (upG G 22 v) := by
  obtain ⟨h0, ⟨u, hu, hu2, hu3⟩, h2, h3, h4, h5, h6⟩ := h
  refine ⟨?_, ⟨u, ?_, hu2, fun b hb => ?_⟩, ?_, ?_, ?_, fun f hf => ?_, fun k hk => ?_⟩
  · rw [um_s, upd_n (by decide), upG_n (by decide)]; exact h0
  · rw [um_s, upd_n (by decide)]; exact hu
  · rw [upG_n (by decide), upG_n (by omega)]; exact hu3 b hb
  · rw [um_s, upd_n (by decide), upG_n (by decide)]; exact h2
  · rw [um_s, upd_n (by decide), upG_n (by decide)]; exact h3
  · rw [um_s, upd_s, upG_s]
  · rw [um_n (by decide), upG_n (by omega)]; exact h5 f hf
  · rw [um_n (by decide), upG_n (by omega)]; exact h6 k hk
theorem CS_len {M : Mem} {G : Nat → Nat} (h : CS M 1 G) (f v : Nat) (hf8 : f < 8) : CS (um M 2 (upd (M 2) f (nI v))) 1 (upG G (1 + f) v) := by
  obtain ⟨h0, ⟨u, hu, hu2, hu3⟩, h2, h3, h4, h5, h6⟩ := h
  refine ⟨?_, ⟨u, ?_, hu2, fun b hb => ?_⟩, ?_, ?_, ?_, fun g hg => ?_, fun k hk => ?_⟩
  · rw [um_n (by decide), upG_n (by omega)]; exact h0
  · rw [um_n (by decide)]; exact hu
  · rw [upG_n (by omega), upG_n (by omega)]; exact hu3 b hb
  · rw [um_n (by decide), upG_n (by omega)]; exact h2
  · rw [um_n (by decide), upG_n (by omega)]; exact h3
  · rw [um_n (by decide), upG_n (by omega)]; exact h4
  · rw [um_s, upd_a]
    by_cases e : g = f
    · subst e; rw [if_pos rfl, upG_s]
    · rw [if_neg e, upG_n (by omega)]; exact h5 g hg
  · rw [um_n (by decide), upG_n (by omega)]; exact h6 k hk
theorem CS_set {M : Mem} {G : Nat → Nat} (h : CS M 1 G) (k v : Nat) (hk4 : k < 4) : CS (um M 3 (upd (M 3) k (nI v))) 1 (upG G (18 + k) v) := by
  obtain ⟨h0, ⟨u, hu, hu2, hu3⟩, h2, h3, h4, h5, h6⟩ := h
  refine ⟨?_, ⟨u, ?_, hu2, fun b hb => ?_⟩, ?_, ?_, ?_, fun g hg => ?_, fun j hj => ?_⟩
  · rw [um_n (by decide), upG_n (by omega)]; exact h0
  · rw [um_n (by decide)]; exact hu
  · rw [upG_n (by omega), upG_n (by omega)]; exact hu3 b hb
  · rw [um_n (by decide), upG_n (by omega)]; exact h2
  · rw [um_n (by decide), upG_n (by omega)]; exact h3
  · rw [um_n (by decide), upG_n (by omega)]; exact h4
  · rw [um_n (by decide), upG_n (by omega)]; exact h5 g hg
  · rw [um_s, upd_a]
    by_cases e : j = k
    · subst e; rw [if_pos rfl, upG_s]
    · rw [if_neg e, upG_n (by omega)]; exact h6 j hj
theorem push_ok {k : Nat} {H : Nat → Nat → Nat} {G : Nat → Nat} (hH : ∀ j, j < k → VG (H j)) (hk : k ≤ 4) (hG : VG G) : ∀ j, j < pK k → VG (pH k H G j) := by
  intro j hj
  unfold pK at hj
  unfold pH
  by_cases c : k < 4
  · rw [if_pos c] at hj ⊢
    by_cases e : j = k
    · rw [if_pos e]; exact hG
    · rw [if_neg e]; exact hH j (by omega)
  · rw [if_neg c] at hj ⊢
    by_cases e : j = 3
    · rw [if_pos e]; exact hG
    · rw [if_neg e]; exact hH _ (by omega)
theorem pw_asNumber {M : Mem} {j : Nat} {Q : Int32 → Mem → Prop} (hj : j ≤ 1) (h : Q (nI j) M) : w_X6_asNumber (nI j) M Q := by
  unfold w_X6_asNumber
  rcases (show j = 0 ∨ j = 1 by omega) with rfl | rfl
  · exact ⟨fun _ => h, fun c => absurd rfl c⟩
  · exact ⟨fun c => absurd c (by decide), fun _ => h⟩
theorem pw_doneBends {M : Mem} {r d : Nat} {Q : Int32 → Mem → Prop} (hd : M r 2 = nI d) (hd2 : d < 128) (h : Q (nI (pcn d)) M) : w_X4_doneBends r M Q := by
  unfold w_X4_doneBends
  rw [hd]
  exact pw_bc hd2 h
theorem char_nar {c : Nat} (hc : c < 65536) : vp_nar .char (nI c) = nI c := by
  unfold vp_nar
  rw [(pk_charN hc).1]
theorem VG_done {G : Nat → Nat} (h : VG G) {d : Nat} (hd : d < 2 ^ G 0) : VG (upG G 16 d) := by
  obtain ⟨v1, v2, v3, v4, v5, v6, v7, v8, v9⟩ := h
  refine ⟨v1, fun f hf => ?_, fun b hb => ?_, ?_, v5, v6, v7, v8, v9⟩
  · rw [show upG G 16 d 0 = G 0 from rfl] at hf
    rw [upG_n (by omega)]; exact v2 f hf
  · rw [show upG G 16 d 0 = G 0 from rfl] at hb
    rw [upG_n (by omega)]; exact v3 b hb
  · rw [upG_s, show upG G 16 d 0 = G 0 from rfl]; exact hd
theorem VG_bdg {G : Nat → Nat} (h : VG G) (n : Nat) : VG (upG G 22 n) := by
  obtain ⟨v1, v2, v3, v4, v5, v6, v7, v8, v9⟩ := h
  refine ⟨v1, fun f hf => ?_, fun b hb => ?_, v4, v5, v6, v7, v8, v9⟩
  · rw [show upG G 22 n 0 = G 0 from rfl] at hf
    rw [upG_n (by omega)]; exact v2 f hf
  · rw [show upG G 22 n 0 = G 0 from rfl] at hb
    rw [upG_n (by omega)]; exact v3 b hb
theorem VG_over {G : Nat → Nat} (h : VG G) {v : Nat} (hv : v ≤ 1) : VG (upG G 17 v) := by
  obtain ⟨v1, v2, v3, v4, v5, v6, v7, v8, v9⟩ := h
  refine ⟨v1, fun f hf => ?_, fun b hb => ?_, v4, ?_, v6, v7, v8, v9⟩
  · rw [show upG G 17 v 0 = G 0 from rfl] at hf
    rw [upG_n (by omega)]; exact v2 f hf
  · rw [show upG G 17 v 0 = G 0 from rfl] at hb
    rw [upG_n (by omega)]; exact v3 b hb
  · rw [upG_s]; exact hv
theorem VG_len {G : Nat → Nat} (h : VG G) {f v : Nat} (hf : f ≤ G 0) (hv : 1 ≤ v ∧ v ≤ 9) : VG (upG G (1 + f) v) := by
  obtain ⟨v1, v2, v3, v4, v5, v6, v7, v8, v9⟩ := h
  have e0 : upG G (1 + f) v 0 = G 0 := upG_n (by omega)
  have ee : ∀ j, 9 ≤ j → upG G (1 + f) v j = G j := fun j hj => upG_n (by omega)
  unfold VG
  rw [e0, ee 16 (by decide), ee 17 (by decide), ee 18 (by decide), ee 19 (by decide), ee 20 (by decide), ee 21 (by decide)]
  refine ⟨v1, fun g hg => ?_, fun b hb => ?_, v4, v5, v6, v7, v8, v9⟩
  · by_cases e : g = f
    · subst e; rw [upG_s]; exact hv
    · rw [upG_n (by omega)]; exact v2 g hg
  · rw [ee _ (by omega)]; exact v3 b hb
theorem bit_lt : ∀ n, n < 8 → ∀ u, u < 2 ^ n → ∀ b, b < 7 → (if u.testBit b then u - 2 ^ b else u) < 2 ^ n := by decide +kernel
theorem bit_lt2 : ∀ n, n < 8 → ∀ u, u < 2 ^ n → ∀ b, b < n → u ||| 2 ^ b < 2 ^ n := by decide +kernel
theorem bit_or_t : ∀ u, u < 128 → ∀ b, b < 7 → ∀ j, j < 7 → (u ||| 2 ^ b).testBit j = (decide (j = b) || u.testBit j) := by decide +kernel
theorem bit_cl_t : ∀ u, u < 128 → ∀ b, b < 7 → ∀ j, j < 7 → (if u.testBit b then u - 2 ^ b else u).testBit j = (!decide (j = b) && u.testBit j) := by decide +kernel
theorem bit_cl_lt : ∀ u, u < 128 → ∀ b, b < 7 → (if u.testBit b then u - 2 ^ b else u) < 128 := by decide +kernel
theorem pck_sum {u n : Nat} {f : Nat → Nat} (hn : n ≤ 7) (h1 : ∀ j, j < 7 → u.testBit j = decide (j < n ∧ f j = 1)) (h2 : ∀ j, j < n → f j ≤ 1) : pck u 7 = smB f n := by
  have a1 : ∀ j, j ≤ n → pck u j = smB f j := by
    intro j
    induction j with
    | zero => intro _; rfl
    | succ j ih =>
      intro hj
      show pck u j + _ = smB f j + f j
      rw [ih (by omega), h1 j (by omega)]
      have := h2 j (by omega)
      by_cases c : f j = 1
      · rw [if_pos (by simp [c]; omega), c]
      · rw [if_neg (by simp [c]), show f j = 0 by omega]
  have a2 : ∀ i, n + i ≤ 7 → pck u (n + i) = pck u n := by
    intro i
    induction i with
    | zero => intro _; rfl
    | succ i ih =>
      intro hi
      show pck u (n + i) + (if u.testBit (n + i) then 1 else 0) = _
      rw [ih (by omega), h1 (n + i) (by omega), if_neg (by simp only [decide_eq_true_eq]; omega)]
      rfl
  have := a2 (7 - n) (by omega)
  rw [show n + (7 - n) = 7 by omega] at this
  rw [this, a1 n (Nat.le_refl n)]
theorem smB_le {f : Nat → Nat} {c : Nat} : ∀ n, (∀ j, j < n → f j ≤ c) → smB f n ≤ n * c := by
  intro n
  induction n with
  | zero => intro _; exact Nat.zero_le _
  | succ n ih =>
    intro h
    show smB f n + f n ≤ (n + 1) * c
    have := ih (fun j hj => h j (by omega))
    have := h n (by omega)
    rw [Nat.succ_mul]
    omega
theorem smB_congr {f g : Nat → Nat} : ∀ n, (∀ j, j < n → f j = g j) → smB f n = smB g n := by
  intro n
  induction n with
  | zero => intro _; rfl
  | succ n ih =>
    intro h
    show smB f n + f n = smB g n + g n
    rw [ih (fun j hj => h j (by omega)), h n (by omega)]
theorem CS_up {M : Mem} {G : Nat → Nat} (h : CS M 1 G) {b e u' : Nat} (hb : b < G 0) (hb7 : b < 7) (he : e ≤ 1) (hu' : u' < 128) (hu : ∀ u, M 1 1 = nI u → u < 128 → ∀ j, j < 7 → u'.testBit j = if j = b then decide (e = 1) else u.testBit j) : CS (um M 1 (upd (M 1) 1 (nI u'))) 1 (upG G (9 + b) e) := by
  obtain ⟨h0, ⟨u, hu1, hu2, hu3⟩, h2, h3, h4, h5, h6⟩ := h
  refine ⟨?_, ⟨u', ?_, hu', fun j hj => ?_⟩, ?_, ?_, ?_, fun f hf => ?_, fun k hk => ?_⟩
  · rw [um_s, upd_n (by decide), upG_n (by omega)]; exact h0
  · rw [um_s, upd_s]
  · rw [upG_n (show (0 : Nat) ≠ 9 + b by omega), hu u hu1 hu2 j hj]
    by_cases c : j = b
    · subst c
      rw [if_pos rfl, upG_s]
      simp [hb]
    · rw [if_neg c, upG_n (by omega)]
      exact hu3 j hj
  · rw [um_s, upd_n (by decide), upG_n (by omega)]; exact h2
  · rw [um_s, upd_n (by decide), upG_n (by omega)]; exact h3
  · rw [um_s, upd_n (by decide), upG_n (by omega)]; exact h4
  · rw [um_n (by decide), upG_n (by omega)]; exact h5 f hf
  · rw [um_n (by decide), upG_n (by omega)]; exact h6 k hk
theorem VG_up {G : Nat → Nat} (h : VG G) {b e : Nat} (hb : b < 7) (he : e ≤ 1) : VG (upG G (9 + b) e) := by
  obtain ⟨v1, v2, v3, v4, v5, v6, v7, v8, v9⟩ := h
  have e0 : upG G (9 + b) e 0 = G 0 := upG_n (by omega)
  have ee : ∀ j, 16 ≤ j → upG G (9 + b) e j = G j := fun j hj => upG_n (by omega)
  unfold VG
  rw [e0, ee 16 (by decide), ee 17 (by decide), ee 18 (by decide), ee 19 (by decide), ee 20 (by decide), ee 21 (by decide)]
  refine ⟨v1, fun g hg => ?_, fun j hj => ?_, v4, v5, v6, v7, v8, v9⟩
  · rw [upG_n (by omega)]; exact v2 g hg
  · by_cases c : j = b
    · subst c; rw [upG_s]; exact he
    · rw [upG_n (by omega)]; exact v3 j hj
theorem VG_set {G : Nat → Nat} (h : VG G) {k v : Nat} (hk : k < 4) (hv : (k = 0 → 1 ≤ v ∧ v ≤ 12) ∧ (k = 1 → v ≤ 3) ∧ (k = 2 → v ≤ 9) ∧ (k = 3 → v ≤ 9)) : VG (upG G (18 + k) v) := by
  obtain ⟨v1, v2, v3, v4, v5, v6, v7, v8, v9⟩ := h
  have ee : ∀ j, j < 18 → upG G (18 + k) v j = G j := fun j hj => upG_n (by omega)
  unfold VG
  rw [ee 0 (by decide), ee 16 (by decide), ee 17 (by decide)]
  refine ⟨v1, fun g hg => ?_, fun j hj => ?_, v4, v5, ?_, ?_, ?_, ?_⟩
  · rw [ee _ (by omega)]; exact v2 g hg
  · rw [ee _ (by omega)]; exact v3 j hj
  · by_cases c : k = 0
    · subst c; rw [show (18 : Nat) = 18 + 0 from rfl, upG_s]; exact hv.1 rfl
    · rw [upG_n (by omega)]; exact v6
  · by_cases c : k = 1
    · subst c; rw [show (19 : Nat) = 18 + 1 from rfl, upG_s]; exact hv.2.1 rfl
    · rw [upG_n (by omega)]; exact v7
  · by_cases c : k = 2
    · subst c; rw [show (20 : Nat) = 18 + 2 from rfl, upG_s]; exact hv.2.2.1 rfl
    · rw [upG_n (by omega)]; exact v8
  · by_cases c : k = 3
    · subst c; rw [show (21 : Nat) = 18 + 3 from rfl, upG_s]; exact hv.2.2.2 rfl
    · rw [upG_n (by omega)]; exact v9
def loS (k : Nat) : Nat := if k = 0 then 1 else 0
def hiS (k : Nat) : Nat := if k = 0 then 12 else if k = 1 then 3 else 9
theorem sv_lo : ∀ k, k < 4 → sv 1 k = nI (loS k) ∧ sv 2 k = nI (hiS k) := by decide +kernel
theorem pw_mayBeSet {M : Mem} {k : Nat} {c : Int32} {Q : Int32 → Mem → Prop} (hk : k < 4) (h0 : c < nI (loS k) ∨ nI (hiS k) < c → Q (nI 0) M) (h1 : ¬ c < nI (loS k) → ¬ nI (hiS k) < c → Q (nI 1) M) : w_X6_mayBeSet (nI k) c M Q := by
  unfold w_X6_mayBeSet
  rw [nI_clamp (by omega), (sv_lo k hk).1, (sv_lo k hk).2]
  have e4 : (4 : Int32) = nI 4 := rfl
  rw [e4]
  refine ⟨fun z => absurd z (nI_neg (by omega)), fun _ => ⟨fun z => ?_, fun _ => ⟨fun _ => ⟨vp_in_nI hk (by decide), fun z => h0 (Or.inl z), fun z => ⟨vp_in_nI hk (by decide), fun y => h0 (Or.inr y), fun y => h1 z y⟩⟩, fun z => ?_⟩⟩⟩
  · rw [nI_leI (by decide) (by omega)] at z; omega
  · rw [nI_ltI (by omega) (by decide)] at z; omega
/-! takeStrip -/
def alC (c : Nat → Nat) (i : Nat) : Prop := i ≤ 14 ∧ (i % 2 = 0 → 49 ≤ c i ∧ c i ≤ 57) ∧ (i % 2 ≠ 0 → c i = 117 ∨ c i = 100)
theorem zc_n {q : Nat} (h : q < 65536) : zc (nI q) := (pk_charN h).1
theorem pw_signAt {M : Mem} {t i : Nat} {c : Nat → Nat} {Q : Int32 → Mem → Prop} (ht : t ≤ 60) (h0 : M 21 0 = nI t) (hc : ∀ i, i < t → c i < 65536 ∧ M 22 i = nI (c i)) (hi : i < t) (h : Q (nI (c i)) M) : w_X5_signAt (nI i) M Q := by
  unfold w_X5_signAt
  rw [h0, nI_clamp (by omega), (hc i hi).2]
  refine ⟨fun _ => absurd ‹nI i < 0› (nI_neg (by omega)), fun _ => ⟨fun z => ?_, fun _ => ⟨fun z => ?_, fun _ => ⟨vp_in_nI (by omega) (by decide), zc_n (hc i hi).1, h⟩⟩⟩⟩
  · rw [nI_leI (by omega) (by omega)] at z; omega
  · rw [nI_leI (by decide) (by omega)] at z; omega
theorem pw_isAllowed {M : Mem} {t i : Nat} {c : Nat → Nat} {Q : Int32 → Mem → Prop} (ht : t ≤ 60) (h0 : M 21 0 = nI t) (hc : ∀ i, i < t → c i < 65536 ∧ M 22 i = nI (c i)) (hi : i < t) (hy : alC c i → Q (nI 1) M) (hn : ¬ alC c i → Q (nI 0) M) : w_X5_isAllowed (nI i) M Q := by
  unfold w_X5_isAllowed
  have hb := (hc i hi).1
  refine pw_signAt ht h0 hc hi ?_
  rw [pk_rem (by omega) (by decide) (by decide)]
  refine ⟨fun z => ⟨fun o => ⟨fun e => hy ?_, fun e => ⟨fun e2 => hn ?_, fun e2 => hy ?_⟩⟩, fun o => ⟨fun e => hn ?_, fun e => ⟨fun e2 => hn ?_, fun e2 => hy ?_⟩⟩⟩, fun z => hn ?_⟩
  all_goals (first | rw [nI_leI (by omega) (by decide)] at z | skip)
  · have e := nI_inj (by omega) (by decide) e
    have o : i % 2 ≠ 0 := fun y => o (by rw [y]; rfl)
    exact ⟨z, fun y => absurd y o, fun _ => Or.inl e⟩
  · have o : i % 2 ≠ 0 := fun y => o (by rw [y]; rfl)
    rintro ⟨-, -, q⟩
    rcases q o with q | q
    · exact e (by rw [q])
    · exact e2 (by rw [q])
  · have o : i % 2 ≠ 0 := fun y => o (by rw [y]; rfl)
    exact ⟨z, fun y => absurd y o, fun _ => Or.inr (nI_inj (by omega) (by decide) e2)⟩
  · rw [nI_ltI (by omega) (by decide)] at e
    have o : i % 2 = 0 := (nI_z (by omega)).mp o
    rintro ⟨-, q, -⟩
    have := q o
    omega
  · rw [nI_ltI (by decide) (by omega)] at e2
    have o : i % 2 = 0 := (nI_z (by omega)).mp o
    rintro ⟨-, q, -⟩
    have := q o
    omega
  · rw [nI_ltI (by omega) (by decide)] at e
    rw [nI_ltI (by decide) (by omega)] at e2
    have o : i % 2 = 0 := (nI_z (by omega)).mp o
    exact ⟨z, fun _ => by omega, fun y => absurd o y⟩
  · rintro ⟨q, -, -⟩
    omega
theorem lq_fault5 {M : Mem} {t : Nat} {c : Nat → Nat} {Q K : Int32 → Mem → Prop} (ht : t ≤ 60) (h0 : M 21 0 = nI t) (hc : ∀ i, i < t → c i < 65536 ∧ M 22 i = nI (c i))
    (hbad : ∀ i, i < t → (∀ j, j < i → alC c j) → ¬ alC c i → Q (nI i) M) (hok : (∀ i, i < t → alC c i) → K (nI t) M) :
    ∀ (n j : Nat), j ≤ t → t + 1 ≤ n + j → (∀ i, i < j → alC c i) → w_X5_fault_2 n (nI j) M Q K := by
  intro n
  induction n with
  | zero => intro j h1 h2; omega
  | succ n ih =>
    intro j h1 h2 hal
    unfold w_X5_fault_2
    rw [h0]
    refine ⟨fun z => ?_, fun z => ?_⟩
    · rw [nI_leI (by omega) (by omega)] at z
      have e : j = t := by omega
      subst e
      exact hok hal
    · rw [nI_leI (by omega) (by omega)] at z
      refine pw_isAllowed ht h0 hc (by omega) (fun q => ⟨fun _ => ?_, fun y => absurd y (by decide)⟩) (fun q => ⟨fun y => absurd rfl y, fun _ => hbad j (by omega) hal q⟩)
      rintro _ rfl
      rw [nI_add]
      refine ih (j + 1) (by omega) (by omega) (fun i hi => ?_)
      rcases (show i < j ∨ i = j by omega) with y | y
      · exact hal i y
      · rw [y]; exact q
def okT (c : Nat → Nat) (t : Nat) : Prop := (∀ i, i < t → alC c i) ∧ 3 ≤ t ∧ t % 2 = 1
theorem pw_fault5 {M : Mem} {t : Nat} {c : Nat → Nat} {Q : Int32 → Mem → Prop} (ht : t ≤ 60) (h0 : M 21 0 = nI t) (hc : ∀ i, i < t → c i < 65536 ∧ M 22 i = nI (c i))
    (hbad : ∀ i, i ≤ t → ¬ okT c t → (∀ j, j < i → alC c j) → (i < t → ¬ alC c i) → Q (nI i) M) (hok : okT c t → Q (-1) M) : w_X5_fault M Q := by
  unfold w_X5_fault
  refine lq_fault5 ht h0 hc (fun i hi h1 h2 => hbad i (by omega) (fun z => h2 (z.1 i hi)) h1 (fun _ => h2)) (fun hal => ?_) FU 0 (Nat.zero_le _) (by show t + 1 ≤ 1000 + 0; omega) (fun i hi => by omega)
  rw [h0, pk_rem (by omega) (by decide) (by decide)]
  have end_ : ¬ okT c t → Q (nI t) M := fun z => hbad t (Nat.le_refl t) z hal (fun y => absurd y (Nat.lt_irrefl t))
  refine ⟨fun z => ⟨fun _ => end_ ?_, fun y => absurd rfl y⟩, fun z => ⟨fun o => ⟨fun _ => end_ ?_, fun y => absurd rfl y⟩, fun o => ⟨fun y => absurd y (by decide), fun _ => hok ?_⟩⟩⟩
  · rw [nI_ltI (by omega) (by decide)] at z
    exact fun w => by have := w.2.1; omega
  · exact fun w => o (by rw [w.2.2])
  · rw [nI_ltI (by omega) (by decide)] at z
    exact ⟨hal, by omega, nI_inj (by omega) (by decide) o⟩
/-- the new strip -/
def tkG (c : Nat → Nat) (n : Nat) (G : Nat → Nat) : Nat → Nat := fun i => if i = 0 then n else if i ≤ 1 + n then c (2 * (i - 1)) - 48 else if 9 ≤ i ∧ i < 9 + n then (if c (2 * (i - 9) + 1) = 117 then 1 else 0) else if i = 16 ∨ i = 17 then 0 else G i
theorem tkG_f {c : Nat → Nat} {n : Nat} {G : Nat → Nat} {f : Nat} (h : f ≤ n) : tkG c n G (1 + f) = c (2 * f) - 48 := by
  unfold tkG
  have e0 : ¬ 1 + f = 0 := by omega
  have e1 : 1 + f ≤ 1 + n := by omega
  rw [if_neg e0, if_pos e1, show 1 + f - 1 = f by omega]
theorem tkG_fo {c : Nat → Nat} {n : Nat} {G : Nat → Nat} {f : Nat} (h : ¬ f ≤ n) (h8 : f < 8) : tkG c n G (1 + f) = G (1 + f) := by
  unfold tkG
  have e0 : ¬ 1 + f = 0 := by omega
  have e1 : ¬ 1 + f ≤ 1 + n := by omega
  have e2 : ¬ (9 ≤ 1 + f ∧ 1 + f < 9 + n) := by omega
  have e3 : ¬ (1 + f = 16 ∨ 1 + f = 17) := by omega
  rw [if_neg e0, if_neg e1, if_neg e2, if_neg e3]
theorem tkG_b {c : Nat → Nat} {n : Nat} {G : Nat → Nat} {b : Nat} (hn : n ≤ 7) (h : b < n) : tkG c n G (9 + b) = if c (2 * b + 1) = 117 then 1 else 0 := by
  unfold tkG
  have e0 : ¬ 9 + b = 0 := by omega
  have e1 : ¬ 9 + b ≤ 1 + n := by omega
  have e2 : 9 ≤ 9 + b ∧ 9 + b < 9 + n := by omega
  rw [if_neg e0, if_neg e1, if_pos e2, show 9 + b - 9 = b by omega]
theorem tkG_o {c : Nat → Nat} {n : Nat} {G : Nat → Nat} {i : Nat} (e0 : ¬ i = 0) (e1 : ¬ i ≤ 1 + n) (e2 : ¬ (9 ≤ i ∧ i < 9 + n)) (e3 : ¬ (i = 16 ∨ i = 17)) : tkG c n G i = G i := by
  unfold tkG
  rw [if_neg e0, if_neg e1, if_neg e2, if_neg e3]
theorem lq_tk46 {M0 : Mem} {t n0 : Nat} {c : Nat → Nat} {K : Int32 → Mem → Prop} (hn : n0 ≤ 7) (htn : t = 2 * n0 + 1) (h10 : M0 1 0 = nI n0) (h0 : M0 21 0 = nI t) (hc : ∀ i, i < t → c i < 65536 ∧ M0 22 i = nI (c i)) (hal : ∀ i, i < t → alC c i)
    (h : ∀ M : Mem, (∀ a, a ≠ 2 → M a = M0 a) → (∀ f, f < 8 → M 2 f = if f ≤ n0 then nI (c (2 * f) - 48) else M0 2 f) → K (nI (n0 + 1)) M) :
    ∀ (n j : Nat) (M : Mem), j ≤ n0 + 1 → n0 + 2 ≤ n + j → (∀ a, a ≠ 2 → M a = M0 a) → (∀ f, f < 8 → M 2 f = if f < j then nI (c (2 * f) - 48) else M0 2 f) → w_X6_takeStrip_46 n (nI j) M K := by
  intro n
  induction n with
  | zero => intro j M h1 h2; omega
  | succ n ih =>
    intro j M h1 h2 hM hf
    unfold w_X6_takeStrip_46
    rw [hM 1 (by decide), h10]
    refine ⟨fun z => ?_, fun z => ?_⟩
    · rw [nI_ltI (by omega) (by omega)] at z
      have e : j = n0 + 1 := by omega
      subst e
      refine h M hM (fun f hf8 => ?_)
      rw [hf f hf8]
      by_cases q : f ≤ n0
      · rw [if_pos q, if_pos (by omega)]
      · rw [if_neg q, if_neg (by omega)]
    · rw [nI_ltI (by omega) (by omega)] at z
      rw [pk_mul]
      refine pw_signAt (t := t) (c := c) (by omega) (by rw [hM 21 (by decide)]; exact h0) (fun i hi => by rw [hM 22 (by decide)]; exact hc i hi) (by omega) ?_
      have ha := (hal (2 * j) (by omega)).2.1 (by omega)
      rw [pk_sub (by omega)]
      unfold w_X4_putLength
      refine ⟨fun z => absurd z (nI_neg (by omega)), fun _ => ⟨fun z => ?_, fun _ => ⟨vp_in_nI (by omega) (by decide), ?_⟩⟩⟩
      · rw [nI_leI (by decide) (by omega)] at z; omega
      rintro _ rfl _ rfl
      rw [nI_clamp (by omega), nI_add]
      refine ih (j + 1) _ (by omega) (by omega) (fun a ha => by rw [um_n ha]; exact hM a ha) (fun f hf8 => ?_)
      rw [um_s, upd_a]
      by_cases q : f = j
      · subst q; rw [if_pos rfl, if_pos (by omega)]
      · rw [if_neg q, hf f hf8]
        by_cases q2 : f < j
        · rw [if_pos q2, if_pos (by omega)]
        · rw [if_neg q2, if_neg (by omega)]
theorem lq_tk86 {M0 : Mem} {t n0 : Nat} {c : Nat → Nat} {K : Int32 → Mem → Prop} (hn : n0 ≤ 7) (htn : t = 2 * n0 + 1) (h10 : M0 1 0 = nI n0) (h0 : M0 21 0 = nI t) (hc : ∀ i, i < t → c i < 65536 ∧ M0 22 i = nI (c i))
    (h : ∀ M : Mem, (∀ a, a ≠ 1 → M a = M0 a) → (∀ s, s ≠ 1 → M 1 s = M0 1 s) → (∃ u, M 1 1 = nI u ∧ u < 128 ∧ ∀ i, i < 7 → u.testBit i = decide (i < n0 ∧ c (2 * i + 1) = 117)) → K (nI n0) M) :
    ∀ (n j : Nat) (M : Mem), j ≤ n0 → n0 + 1 ≤ n + j → (∀ a, a ≠ 1 → M a = M0 a) → (∀ s, s ≠ 1 → M 1 s = M0 1 s) → (∃ u, M 1 1 = nI u ∧ u < 128 ∧ ∀ i, i < 7 → u.testBit i = decide (i < j ∧ c (2 * i + 1) = 117)) → w_X6_takeStrip_86 n (nI j) M K := by
  intro n
  induction n with
  | zero => intro j M h1 h2; omega
  | succ n ih =>
    intro j M h1 h2 hM hs hu
    unfold w_X6_takeStrip_86
    rw [hs 0 (by decide), h10]
    refine ⟨fun z => ?_, fun z => ?_⟩
    · rw [nI_leI (by omega) (by omega)] at z
      have e : j = n0 := by omega
      subst e
      exact h M hM hs hu
    · rw [nI_leI (by omega) (by omega)] at z
      obtain ⟨u, hu1, hu2, hu3⟩ := hu
      rw [pk_mul, nI_add]
      refine pw_signAt (t := t) (c := c) (by omega) (by rw [hM 21 (by decide)]; exact h0) (fun i hi => by rw [hM 22 (by decide)]; exact hc i hi) (by omega) ?_
      have hb := (hc (2 * j + 1) (by omega)).1
      have step : ∀ u', u' < 128 → (∀ i, i < 7 → u'.testBit i = decide (i < j + 1 ∧ c (2 * i + 1) = 117)) → ∀ y : Int32, y = nI j + nI 1 → w_X6_takeStrip_86 n y (um M 1 (upd (M 1) 1 (nI u'))) K := by
        rintro u' hu' hb' _ rfl
        rw [nI_add]
        exact ih (j + 1) _ (by omega) (by omega) (fun a ha => by rw [um_n ha]; exact hM a ha) (fun s hs1 => by rw [um_s, upd_n hs1]; exact hs s hs1) ⟨u', by rw [um_s, upd_s], hu', hb'⟩
      refine ⟨fun e => ?_, fun e => ?_⟩
      · have e : c (2 * j + 1) ≠ 117 := fun y => e (by rw [y])
        unfold w_X4_putUp
        rw [hu1]
        refine ⟨fun _ => ?_, fun y => absurd rfl y⟩
        rintro _ rfl
        rw [bit_clr u hu2 j (by omega)]
        refine step _ (bit_cl_lt u hu2 j (by omega)) (fun i hi => ?_)
        rw [bit_cl_t u hu2 j (by omega) i hi, hu3 i hi]
        by_cases q : i = j
        · subst q; simp [e]
        · have : (i < j + 1) = (i < j) := by apply propext; omega
          simp [q, this]
      · have e : c (2 * j + 1) = 117 := nI_inj (by omega) (by decide) e
        unfold w_X4_putUp
        rw [hu1]
        refine ⟨fun y => absurd y (by decide), fun _ => ?_⟩
        rintro _ rfl
        rw [bit_set u hu2 j (by omega)]
        refine step _ (bit_or_lt u hu2 j (by omega)) (fun i hi => ?_)
        rw [bit_or_t u hu2 j (by omega) i hi, hu3 i hi]
        by_cases q : i = j
        · subst q; simp [e]
        · have : (i < j + 1) = (i < j) := by apply propext; omega
          simp [q, this]
