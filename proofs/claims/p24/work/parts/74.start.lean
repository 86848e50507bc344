/-! the start of the law -/
theorem law_new {p : Program} {e : Env} {s : State} {m : MethodId} {below : List Frame} {meth : Method} {c : Code} {H : Heap} {locs : List Loc} {cells slots pc : Nat} {lsr : Array Slot} {st : List Value} {E : EN} {b L : Nat} {xs : Nat → Int32} {Qf : State → Prop}
    {idx ci Nf : Nat} {C : String} {T : u_T} {fk : List (Option (Option Nat))} (A0 : lw_At p s m meth c b L xs) (h : LwS E s H locs) (hH : H.size = eB E)
    (ty : Nat → FieldType) (hty : ∀ k, k < Nf → parseFieldDescriptor (T k).2.2.1 = some (ty k)) (hc : vwCl[ci]? = some (C, T, Nf)) (hin : ∀ w ∈ u_ws C T Nf, w ∈ lw_tbl) (hcl : Cond.classLink RL idx C ∈ lw_tbl) (hins : Cond.instantiable C Nf ∈ lw_tbl) (hini : Cond.initialized C ∈ lw_tbl)
    (hfs : ∀ j, j < Nf → defaultValue (ty j) = vp_V (fk.map dF) j) (hf0 : ∀ x ∈ fk, x = none ∨ x = some none) (hc1 : cells + 1 ≤ 600000) (hc2 : slots + Nf ≤ 7302249) (hd : decode code pc = .ok (.new idx, 3))
    (kk : ∀ H' : Heap, H'.size = eB E + 1 → LwS E s H' locs → va_P (eD E) vwCl (cW E (fun _ => .inr (ci, fk)) 1 M00) H' → (∀ q : Nat, q < H.size → H'[q]? = H[q]?) → W p (eL E) e room_1 s m #[Value.ref b] below meth c H' locs (cells + 1) (slots + Nf) Qf (F0 m (pc + 3) lsr (.ref (eB E) :: st))) :
    W p (eL E) e room_1 s m #[Value.ref b] below meth c H locs cells slots Qf (F0 m pc lsr st) := by
  have hts := A0.2.2.2.2.2.1
  have hKn := h.1.1 ci _ hc
  have hS := h.2.1
  refine W.newcK A0.1 A0.2.1 A0.2.2.2.2.1 (hts _ hcl) (hts _ hins) (hts _ hini) rfl hd (by show cells + 1 ≤ 600000; omega) (by show slots + Nf ≤ 7302249; omega) hKn.2.1 hH fun H1 kC hkC e1 z1 o1 => ?_
  have o2 : ∀ q : Nat, q < H.size → H1[q]? = H[q]? := fun q hq => o1 q (by rw [← hH]; exact hq)
  refine kk H1 z1 ⟨h.1, ⟨by rw [z1]; have := hS.1; omega, fun x q1 q2 => (o2 x (Nat.lt_of_lt_of_le q1 hS.1)).trans (hS.2.1 x q1 q2), hS.2.2⟩, h.2.2.1, h.2.2.2⟩ (fun j x hx => ?_) o2
  have hz : j < 1 := by
    have := (List.getElem?_eq_some_iff.mp hx).1
    rwa [cW_len] at this
  rw [show j = 0 by omega] at hx
  have e0 : aE E 0 = eB E := aE_lt (by decide)
  have ex : x = (eB E, cK E (.inr (ci, fk)) (fun _ => 0)) := by
    rw [cW_get (by decide), e0] at hx
    exact (Option.some.inj hx).symm
  subst ex
  refine ⟨_, hc, (u_born ty hts hin hKn hkC e1 hty).to (fun j hj => ?_)⟩
  show defaultValue (ty j) = vp_V (fk.mapIdx (fun k x => cV E (aF (fun _ => 0) k x))) j
  rw [dF_idx E fk hf0]
  exact hfs j hj
theorem arr_of {s : State} {args : Array Value} {ty : FieldType} (hv : ∀ C, ty ≠ .object C) (h : (Cond.arrayClass ty).before args s = true) : ∃ cA : ClassId, ArrOfT s cA ty ∧ va_RA s cA ty := by
  obtain ⟨c, k, comp, h1, h2, h3⟩ := Cond.arrayClass_spec h
  refine ⟨c, fun n z => ⟨fun k h => (by cases h), k, h2, comp, h3⟩, ?_⟩
  cases ty with
  | object C => exact absurd rfl (hv C)
  | _ => exact h1
theorem arr_ofO {s : State} {args : Array Value} {C : String} (h : (Cond.arrayOver (.object C)).before args s = true) : ∃ cA : ClassId, ArrOfT s cA (.object C) ∧ va_RA s cA (.object C) := by
  obtain ⟨comp, c, k, h1, h2, h3, h4, h5⟩ := Cond.arrayOver_spec h
  exact ⟨c, fun n z => ⟨fun k h => (by cases h), k, h3, comp, h4⟩, k, comp, h3, h4, h1, h5⟩
set_option maxHeartbeats 4000000 in
theorem law_env {p : Program} {s : State} {m : MethodId} {meth : Method} {c : Code} (l : Launch) {b L : Nat} {xs : Nat → Int32} (C0 : lw_At p s m meth c b L xs) : ∃ E : EN, eL E = l ∧ s.heap.size = eB E ∧ va_K (eD E) vwCl (eT E) s ∧ SC E (fun q => s.heap.size ≤ q) s s.heap := by
  obtain ⟨hx, hb, hr, hml, hown, hts, hX, hbl, hlocks, hgv⟩ := id C0
  obtain ⟨c0, s0, k0⟩ := u_known (C := RX0) (T := TX0) (N := 2) (n := 2) hts li_X0 (hts (.instantiable RX0 2) (List.mem_of_getElem? (i := 77) (by decide +kernel)))
  obtain ⟨c1, s1, k1⟩ := u_known (C := RX1) (T := TX1) (N := 6) (n := 6) hts li_X1 (hts (.instantiable RX1 6) (List.mem_of_getElem? (i := 159) (by decide +kernel)))
  obtain ⟨c2, s2, k2⟩ := u_known (C := RX2) (T := TX2) (N := 1) (n := 1) hts li_X2 (hts (.instantiable RX2 1) (List.mem_of_getElem? (i := 109) (by decide +kernel)))
  obtain ⟨c3, s3, k3⟩ := u_known (C := RX3) (T := TX3) (N := 11) (n := 11) hts li_X3 (hts (.instantiable RX3 11) (List.mem_of_getElem? (i := 115) (by decide +kernel)))
  obtain ⟨c4, s4, k4⟩ := u_known (C := RX4) (T := TX4) (N := 7) (n := 7) hts li_X4 (hts (.instantiable RX4 7) (List.mem_of_getElem? (i := 34) (by decide +kernel)))
  obtain ⟨c5, s5, k5⟩ := u_known (C := RX5) (T := TX5) (N := 2) (n := 2) hts li_X5 (hts (.instantiable RX5 2) (List.mem_of_getElem? (i := 94) (by decide +kernel)))
  obtain ⟨c6, s6, k6⟩ := u_known (C := RX6) (T := TX6) (N := 7) (n := 7) hts li_X6 (hts (.instantiable RX6 7) (List.mem_of_getElem? (i := 26) (by decide +kernel)))
  obtain ⟨aI, aI1, aI2⟩ := arr_of (ty := .int) (fun C h => by cases h) (hts (.arrayClass .int) (List.mem_of_getElem? (i := 75) (by decide +kernel)))
  obtain ⟨aC, aC1, aC2⟩ := arr_of (ty := .char) (fun C h => by cases h) (hts (.arrayClass .char) (List.mem_of_getElem? (i := 107) (by decide +kernel)))
  obtain ⟨aB, aB1, aB2⟩ := arr_of (ty := .boolean) (fun C h => by cases h) (hts (.arrayClass .boolean) (List.mem_of_getElem? (i := 187) (by decide +kernel)))
  have hov := hts (.arrayOver (.object RX4)) (List.mem_of_getElem? (i := 83) (by decide +kernel))
  obtain ⟨aO, aO1, aO2⟩ := arr_ofO hov
  have hq := flat_of_before _ hgv
  have hA : ∀ a : Nat, a < s.heap.size → ¬ (fun q => s.heap.size ≤ q) a := fun a h => Nat.not_le.mpr h
  obtain ⟨t0, ht0, hT0⟩ := va_Tof (args := #[Value.ref b]) (s := s) (tm := (Term.static "BendOrders" "FIRST_SETTINGS" "[I")) (ty := .int) (N := 4) (f := fun k => .int (sv 0 k)) (A := fun q => s.heap.size ≤ q) (by decide) (hq (Cond.arrayOf (Term.static "BendOrders" "FIRST_SETTINGS" "[I") .int) (by decide +kernel)) (va_eqt (z := 4) (hq (Cond.eq (Term.length (Term.static "BendOrders" "FIRST_SETTINGS" "[I")) (Term.int 4)) (by decide +kernel))) (fun j hj => by
    rcases (show j = 0 ∨ j = 1 ∨ j = 2 ∨ j = 3 by omega) with rfl | rfl | rfl | rfl
    · exact va_eqt (z := 6) (hq (Cond.eq (Term.elem (Term.static "BendOrders" "FIRST_SETTINGS" "[I") (Term.int 0)) (Term.int 6)) (by decide +kernel))
    · exact va_eqt (z := 1) (hq (Cond.eq (Term.elem (Term.static "BendOrders" "FIRST_SETTINGS" "[I") (Term.int 1)) (Term.int 1)) (by decide +kernel))
    · exact va_eqt (z := 1) (hq (Cond.eq (Term.elem (Term.static "BendOrders" "FIRST_SETTINGS" "[I") (Term.int 2)) (Term.int 1)) (by decide +kernel))
    · exact va_eqt (z := 3) (hq (Cond.eq (Term.elem (Term.static "BendOrders" "FIRST_SETTINGS" "[I") (Term.int 3)) (Term.int 3)) (by decide +kernel))) hA
  have hZ0 := va_Zof (hts (.laysStatic RX6 "FIRST_SETTINGS" "[I") (List.mem_of_getElem? (i := 40) (by decide +kernel))) (hts (.initialized RX6) (List.mem_of_getElem? (i := 15) (by decide +kernel))) ht0 hA
  obtain ⟨t1, ht1, hT1⟩ := va_Tof (args := #[Value.ref b]) (s := s) (tm := (Term.static "BendOrders" "LEAST_SETTINGS" "[I")) (ty := .int) (N := 4) (f := fun k => .int (sv 1 k)) (A := fun q => s.heap.size ≤ q) (by decide) (hq (Cond.arrayOf (Term.static "BendOrders" "LEAST_SETTINGS" "[I") .int) (by decide +kernel)) (va_eqt (z := 4) (hq (Cond.eq (Term.length (Term.static "BendOrders" "LEAST_SETTINGS" "[I")) (Term.int 4)) (by decide +kernel))) (fun j hj => by
    rcases (show j = 0 ∨ j = 1 ∨ j = 2 ∨ j = 3 by omega) with rfl | rfl | rfl | rfl
    · exact va_eqt (z := 1) (hq (Cond.eq (Term.elem (Term.static "BendOrders" "LEAST_SETTINGS" "[I") (Term.int 0)) (Term.int 1)) (by decide +kernel))
    · exact va_eqt (z := 0) (hq (Cond.eq (Term.elem (Term.static "BendOrders" "LEAST_SETTINGS" "[I") (Term.int 1)) (Term.int 0)) (by decide +kernel))
    · exact va_eqt (z := 0) (hq (Cond.eq (Term.elem (Term.static "BendOrders" "LEAST_SETTINGS" "[I") (Term.int 2)) (Term.int 0)) (by decide +kernel))
    · exact va_eqt (z := 0) (hq (Cond.eq (Term.elem (Term.static "BendOrders" "LEAST_SETTINGS" "[I") (Term.int 3)) (Term.int 0)) (by decide +kernel))) hA
  have hZ1 := va_Zof (hts (.laysStatic RX6 "LEAST_SETTINGS" "[I") (List.mem_of_getElem? (i := 402) (by decide +kernel))) (hts (.initialized RX6) (List.mem_of_getElem? (i := 15) (by decide +kernel))) ht1 hA
  obtain ⟨t2, ht2, hT2⟩ := va_Tof (args := #[Value.ref b]) (s := s) (tm := (Term.static "BendOrders" "MOST_SETTINGS" "[I")) (ty := .int) (N := 4) (f := fun k => .int (sv 2 k)) (A := fun q => s.heap.size ≤ q) (by decide) (hq (Cond.arrayOf (Term.static "BendOrders" "MOST_SETTINGS" "[I") .int) (by decide +kernel)) (va_eqt (z := 4) (hq (Cond.eq (Term.length (Term.static "BendOrders" "MOST_SETTINGS" "[I")) (Term.int 4)) (by decide +kernel))) (fun j hj => by
    rcases (show j = 0 ∨ j = 1 ∨ j = 2 ∨ j = 3 by omega) with rfl | rfl | rfl | rfl
    · exact va_eqt (z := 12) (hq (Cond.eq (Term.elem (Term.static "BendOrders" "MOST_SETTINGS" "[I") (Term.int 0)) (Term.int 12)) (by decide +kernel))
    · exact va_eqt (z := 3) (hq (Cond.eq (Term.elem (Term.static "BendOrders" "MOST_SETTINGS" "[I") (Term.int 1)) (Term.int 3)) (by decide +kernel))
    · exact va_eqt (z := 9) (hq (Cond.eq (Term.elem (Term.static "BendOrders" "MOST_SETTINGS" "[I") (Term.int 2)) (Term.int 9)) (by decide +kernel))
    · exact va_eqt (z := 9) (hq (Cond.eq (Term.elem (Term.static "BendOrders" "MOST_SETTINGS" "[I") (Term.int 3)) (Term.int 9)) (by decide +kernel))) hA
  have hZ2 := va_Zof (hts (.laysStatic RX6 "MOST_SETTINGS" "[I") (List.mem_of_getElem? (i := 404) (by decide +kernel))) (hts (.initialized RX6) (List.mem_of_getElem? (i := 15) (by decide +kernel))) ht2 hA
  refine ⟨(l, (fun k => match k with | 0 => c0 | 1 => c1 | 2 => c2 | 3 => c3 | 4 => c4 | 5 => c5 | _ => c6, fun k => match k with | 0 => s0 | 1 => s1 | 2 => s2 | 3 => s3 | 4 => s4 | 5 => s5 | _ => s6), fun t => match t with | 0 => aI | 1 => aC | 2 => aB | _ => aO, s.heap.size, fun j => match j with | 0 => t0 | 1 => t1 | _ => t2), rfl, rfl, ⟨?_, ?_⟩, ?_, va_AO.of hov, va_Nw.of rfl (hts (.fieldLinkNest RX4 32 RX6 "FIRST_SETTINGS" "[I" RX6) (List.mem_of_getElem? (i := 39) (by decide +kernel)))⟩
  · intro k q hq
    match k, hq with
    | 0, hq => cases hq; exact k0
    | 1, hq => cases hq; exact k1
    | 2, hq => cases hq; exact k2
    | 3, hq => cases hq; exact k3
    | 4, hq => cases hq; exact k4
    | 5, hq => cases hq; exact k5
    | 6, hq => cases hq; exact k6
    | k + 7, hq => exact absurd (List.getElem?_eq_some_iff.mp hq).1 (Nat.not_lt.mpr (Nat.le_add_left 7 k))
  · intro k q hq
    match k, hq with
    | 0, hq => cases hq; exact ⟨aI1, aI2⟩
    | 1, hq => cases hq; exact ⟨aC1, aC2⟩
    | 2, hq => cases hq; exact ⟨aB1, aB2⟩
    | 3, hq => cases hq; exact ⟨aO1, aO2⟩
    | k + 4, hq => exact absurd (List.getElem?_eq_some_iff.mp hq).1 (Nat.not_lt.mpr (Nat.le_add_left 4 k))
  · intro j hj
    match j, hj with
    | 0, _ => exact ⟨hZ0, hT0⟩
    | 1, _ => exact ⟨hZ1, hT1⟩
    | 2, _ => exact ⟨hZ2, hT2⟩
    | j + 3, hj => exact absurd hj (Nat.not_lt.mpr (Nat.le_add_left 3 j))

set_option maxHeartbeats 4000000 in
theorem law_enter {p : Program} {e : Env} {s : State} {m : MethodId} {below : List Frame} {meth : Method} {c : Code} {E : EN} {b L : Nat} {xs : Nat → Int32} {ls : Array Slot} (hL : L ≤ 260) (A0 : lw_At p s m meth c b L xs) (h0 : LwS E s s.heap []) (hB : s.heap.size = eB E) (hl : lv_has ls 6 [(0, .ref b)]) :
    W p (eL E) e room_1 s m #[Value.ref b] below meth c s.heap [] 0 0 (lw_Z below #[Value.ref b] s) (F0 m 0 ls []) := by
  have hx := A0.1
  have hb := A0.2.1
  have a0 : aE E 0 = eB E := aE_lt (by decide)
  refine law_new (E := E) (ci := 6) (T := TX6) (Nf := 7) (fk := [some none, some none, none, some none, some none, some none, some none]) A0 h0 hB tyX6 tyX6_ok rfl li_X6 (List.mem_of_getElem? (i := 25) (by decide +kernel)) (List.mem_of_getElem? (i := 26) (by decide +kernel)) (List.mem_of_getElem? (i := 15) (by decide +kernel)) (by decide) (by decide) (Nat.le_of_ble_eq_true rfl) (Nat.le_of_ble_eq_true rfl) dL_law_0 (fun H1 z1 h1 p1 f1 => ?_)
  refine lv_dup hx hb dL_law_3 rfl ?_
  refine law_callI (E := E) (σ := σ6) (N := 1) (M := M00) (r := 0) (J := iX6_init) (d' := 4) (k' := 45) (n' := 711) (st := [.ref (eB E)]) A0 h1 p1 hl (by decide) (by decide) z1 (ct_X6_0 (E := E) rfl) gL_law_X6_init rfl (List.mem_of_getElem? (i := 2) (by decide +kernel)) (List.mem_of_getElem? (i := 3) (by decide +kernel)) (List.mem_of_getElem? (i := 4) (by decide +kernel)) rfl hy_X6_init (by decide) (Nat.le_of_ble_eq_true rfl) (by rw [a0]) (Nat.le_of_ble_eq_true rfl) (Nat.le_of_ble_eq_true rfl) dL_law_4 (fun v σ' N' M' H2 locs2 hq h2 p2 hz2 f2 z2 => ?_)
  obtain ⟨rfl, rfl, rfl, rfl⟩ := hq
  rw [cW_congr σC_new] at p2
  refine lv_astore_n (lv' := [(1, .ref (eB E)), (0, .ref b)]) hx hb dL_law_7 rfl hl (by decide) rfl (fun ls2 hl2 => ?_)
  refine lv_iconst (v := nI 0) hx hb dL_law_8 (by decide) ?_
  refine lv_istore_n (lv' := [(2, .int (nI 0)), (1, .ref (eB E)), (0, .ref b)]) hx hb dL_law_9 rfl hl2 (by decide) rfl (fun ls3 hl3 => ?_)
  refine W.widen (k := 100 + 0) (n := 1000 + 10 * 0) (Nat.le_of_ble_eq_true rfl) (Nat.le_of_ble_eq_true rfl) ?_
  have hl4 : lv_has ls3 6 (lvE E b 0) := lv_sub hl3 [2, 1, 0] (by rw [← a0]; rfl)
  exact law_loop (E := E) hL 36 0 46 MC0 G00 none 0 (fun _ => 0) rfl (Nat.le_refl _) (Nat.le_refl _) ST0 p e s m below meth c H2 locs2 ls3 A0 h2 p2 z2 hl4
/-- from the entry, for every script of at most 260 ints, the law comes to its end with true -/
theorem whole_start {p : Program} {e : Env} {s : State} {m : MethodId} {below : List Frame} {meth : Method} {c : Code} (l : Launch) (hflags : l.flags = flags0) {b L : Nat} {xs : Nat → Int32} (hL : L ≤ 260) (C0 : lw_At p s m meth c b L xs) : W p l e room_1 s m #[Value.ref b] below meth c s.heap [] 0 0 (lw_Z below #[Value.ref b] s) (entryFrame m ([Value.ref b] : List Value).toArray 6) := by
  obtain ⟨E, rfl, hB, hK, hSC⟩ := law_env l C0
  have hl := lv_entry ([.ref b]) (n := 6) (Nat.le_of_ble_eq_true rfl)
  rw [lg_entry_eq]
  generalize (lg_sl ([.ref b]) ++ List.replicate (6 - (lg_sl ([.ref b])).length) Slot.unset).toArray = ls at hl ⊢
  have hl : lv_has ls 6 [(0, .ref b)] := hl
  exact law_enter hL C0 ⟨hK, va_S.rf, hSC, Nat.le_of_eq hB⟩ hB hl
-- ===== YOUR PART ENDS =====
set_option maxHeartbeats 4000000 in
theorem lw_walk (l : Launch) (hflags : l.flags = flags0) (b : Addr) (xs : List Int32) : MetFree l x (headSpec (Jvm.Cond.code x code maxLocals ret :: tables_1) room_1) (lw_P b xs) (fun _ _ _ _ _ => True) lw_Q := by
  refine MetFree.of_bodyS (code := code) (maxLocals := maxLocals) (ret := ret) (by decide) ?_ ?_
  · intro args s m h hn
    obtain ⟨meth, c, h1, h2, h3, h4, h5, h6, -, -⟩ := Cond.code_spec hn (atoms_spec (ws := Jvm.Cond.code x code maxLocals ret :: tables_1) h _ List.mem_cons_self)
    exact ⟨meth, c, h1, h2, h3, h4, h5, h6⟩
  · intro p e s m args below meth c s₁ B hml0 hP _
    obtain ⟨rfl, hx, hbd, hgv⟩ := hP
    obtain ⟨scr, harrAt, hlist, hof, hsmall⟩ := hx
    obtain ⟨hcb, hkn, -, -⟩ := State.arrayAt?_spec harrAt
    have hown : s.vm.findClass R_law = some m.cls := findClass_of_methodNamed B.named
    have hts0 : ∀ c ∈ (Jvm.Cond.code x code maxLocals ret :: tables_1), c.before #[Value.ref b] s = true := atoms_spec (ws := Jvm.Cond.code x code maxLocals ret :: tables_1) B.pre
    have hts : ∀ w ∈ lw_tbl, w.before #[Value.ref b] s = true := k2_hts_sels lw_privs (fun w hw => hts0 w (List.mem_cons_of_mem _ hw)) lw_privs_ok
    have hml : c.maxLocals = 6 := B.maxLocals_eq (hts0 _ List.mem_cons_self)
    have X₀ : Stand p l e room_1 s m #[Value.ref b] below meth c s₁ [] 0 0 := Stand.of_body B
    have hh0 : s₁.heap = s.heap := by rw [B.state]; rfl
    have hsz : scr.slots.size = xs.length := by rw [← Array.length_toList, hlist, List.length_map]
    have hval : ∀ j : Nat, j < xs.length → scr.slots[j]? = some (.int (xs.getD j 0)) := fun j hj => by
      rw [← Array.getElem?_toList, hlist]
      simp [hj]
    have hbl : b < s.heap.size := (Array.getElem?_eq_some_iff.mp hcb).1
    have hX : va_X b xs.length (fun j => xs.getD j 0) s s.heap := ⟨scr, hcb, hof, hkn, hsz, hval⟩
    have K : W p l e room_1 s m #[Value.ref b] below meth c s₁.heap [] 0 0 (lw_Z below #[Value.ref b] s) (entryFrame m ([Value.ref b] : List Value).toArray 6) := by
      rw [hh0]
      exact whole_start l hflags hbd ⟨B.exec, B.bytes, B.returns, hml, hown, hts, hX, hbl, B.notSynchronized, hgv⟩
    obtain ⟨t, a1, o, b1, b2, b3⟩ := K s₁ rfl X₀
    exact ⟨t, o, a1, b1, b2, b3⟩
theorem lw_pre_spec {args : Array Value} {s : State} (h : (Jvm.Cond.and given_1 narrow_1).before args s = true) (hr : rest_1_c.before args s = true) : ∃ (b : Addr) (xs : List Int32), lw_P b xs args s := by
  have hs := flat_of_before _ h
  have hq := flat_of_before _ hr
  have hc : (Cond.count 1).before args s = true := hs _ (by decide +kernel)
  have harr : (Cond.arrayOf (.arg 0) .int).before args s = true := hs _ (by decide +kernel)
  have hle : (Cond.le (.length (.arg 0)) (.int 260)).before args s = true := hs _ (by decide +kernel)
  have hlen : (Cond.isInt (.length (.arg 0))).before args s = true := hq _ (by decide +kernel)
  have hall : (Cond.all (.arg 0) (.isInt (.elem (.arg 0) (.index 0)))).before args s = true := hq _ (by decide +kernel)
  obtain ⟨b, xs, hb, hx⟩ := State.ints_of_pre rfl harr hlen hall
  have hsm : xs.length < 2 ^ 31 := hx.choose_spec.2.2.2
  have hev : (Term.length (.arg 0)).eval args s none [] s = some (.int xs.length.toInt32) := hx.length_eval hb
  have hv := Cond.le_ints hev (show (Term.int 260).eval args s none [] s = some (.int 260) from rfl)
  have hd : xs.length.toInt32 ≤ 260 := by
    simpa [Cond.before, Cond.holds, hv] using hle
  have hN : xs.length ≤ 260 := (Int32.ofNat_le_ofNat hsm (by decide)).mp (show Int32.ofNat xs.length ≤ Int32.ofNat 260 from hd)
  exact ⟨b, xs, Cond.one_arg hc (show args[0]? = some (.ref b) from hb), hx, hN, h⟩
theorem lw_comes (l : Launch) (hflags : l.flags = flags0) : Comes l x (Jvm.Cond.code x code maxLocals ret :: tables_1) room_1 (fun tb e args s => Calls_1 tb e args s ∧ rest_1 tb e args s ∧ Pre_1 tb e args s)
    (fun _ _ args s o t => lw_Q args s o t) := by
  intro p e ha hc hk s m args below hf hfit hheap happ hpre
  obtain ⟨b, xs, hP⟩ := lw_pre_spec hpre.2.2 hpre.2.1
  obtain ⟨k, o, h1, h2, h3, hQ⟩ := lw_walk l hflags b xs p e ha hc hk s m args below hf ((Spec.applies_iff_loose hf).mp happ).1 hP trivial
  exact ⟨k, o, h1, h2, h3, hQ⟩
theorem lw_frame {s t : State} {o : Outcome} {args : Array Value} (h : Framed s o t [] 600000 7302249) :
    Framed s o t (fieldLocs frame_1_writes args s ++ arrayLocs frame_1_arrays args s ++ staticLocs frame_1_statics s) 600000 7302249 := h
theorem lw_limb (L : Cond) (hL : ∀ (args : Array Value) (s t : State), L.after args s (.returned (some (.int 1))) t = true) :
    ArmFor flags0 classFile x code maxLocals ret World_1 tables_1 room_1 Calls_1 rest_1 Pre_1
      (fun tb e a s o t => postC L tb e a s o t ∧ Framed s o t (fieldLocs frame_1_writes a s ++ arrayLocs frame_1_arrays a s ++ staticLocs frame_1_statics s) 600000 7302249) := by
  intro l hflags _ _ p e ha hc hk s m args below hf hfit hheap happ hpre
  obtain ⟨k, o, h1, h2, h3, rfl, hF⟩ := lw_comes l hflags p e ha hc hk s m args below hf hfit hheap happ hpre
  exact ⟨k, _, h1, h2, h3, hL args s _, lw_frame hF⟩
theorem i_vc : Claimed_1_1 ∧ Claimed_1_2 := ⟨lw_limb limb_1_1 (fun args s t => by simp [limb_1_1, Cond.after, Cond.holds, Cond.value]), lw_limb limb_1_2 (fun args s t => Cond.after_iff.mpr (by
  first | (rw [show limb_1_2 = Cond.eq .result (.int 1) from rfl, Cond.eq_ints (x := 1) (y := 1) rfl rfl]; simp; done) | (simp [limb_1_2, Cond.value, Term.eval]; done)))⟩
