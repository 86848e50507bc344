/-! THE CLAIM OUT OF ONE WALK OF THE LAW'S BODY. Your part is whole_start (and what it stands on); all else here is the same for every law, but numbers. -/
def R_law : String := "BendOrdersLaw"
def lw_P (b : Addr) (xs : List Int32) (args : Array Value) (s : State) : Prop := args = #[.ref b] ∧ s.IntsAt b xs ∧ xs.length ≤ 260 ∧ (Jvm.Cond.and given_1 narrow_1).before args s = true
def lw_Q (_ : Array Value) (s : State) (o : Outcome) (t : State) : Prop := o = .returned (some (.int 1)) ∧ Framed s o t [] 600000 7302249
def lw_Z (below : List Frame) (a : Array Value) (s : State) : State → Prop := fun t => ∃ o, t.status = .running ∧ Ended t below o ∧ lw_Q a s o t
/-- the law's own end, with 1 on the stack, nothing written that was there before, its room as the claim has it -/
theorem lw_ret {p : Program} {l : Launch} {e : Env} {s : State} {m : MethodId} {below : List Frame} {meth : Method} {c : Code} {b : Nat} (hx : p.tables.exec = Jvm.exec) (hb : c.code = code) (hr : meth.sig.returnType = ret) (hlocks : meth.locks = false) {pc : Nat} {H : Heap} {ls : Array Slot} (hdg : decode code pc = .ok (.ireturn, 1)) : W p l e room_1 s m #[Value.ref b] below meth c H [] 600000 7302249 (lw_Z below #[Value.ref b] s) (F0 m pc ls [.int 1]) := by
  intro T hT X
  obtain ⟨fs, hret, hrun, hended, hW, hframe⟩ := X.leave (v := some (.int 1)) (hlocks := hlocks) (fun h => by rw [hr] at h; cases h)
  have hmeth' : T.vm.method? m = some meth := X.method'
  refine ⟨T.setFrames fs, ?_, .returned (some (.int 1)), hrun, hended, rfl, ⟨_, rfl⟩, hW, hframe⟩
  jvm_step X.here [X.here.top, hx, hb, hdg, hmeth', hr, ret, narrow_b1]
  (try refine ⟨rfl, ?_⟩); (try refine ⟨rfl, ?_⟩)
  first | (intro acts; rw [hret _ acts rfl rfl rfl]) | rw [hret _ _ rfl rfl rfl]
  exact Steps.refl _
/-- what holds at the law's entry: the machine, the code, the tables' words (any of lw_tbl by 'hts w (by decide +kernel)'), the script of L ints xs at the cell b, what the Statement gives of the start (any of its parts by flat_of_before) -/
def lw_At (p : Program) (s : State) (m : MethodId) (meth : Method) (c : Code) (b L : Nat) (xs : Nat → Int32) : Prop :=
  p.tables.exec = Jvm.exec ∧ c.code = code ∧ meth.sig.returnType = ret ∧ c.maxLocals = 6 ∧ s.vm.findClass R_law = some m.cls ∧ (∀ w ∈ lw_tbl, w.before #[Value.ref b] s = true) ∧ va_X b L xs s s.heap ∧ b < s.heap.size ∧ meth.locks = false ∧ (Jvm.Cond.and given_1 narrow_1).before #[Value.ref b] s = true
/-! the law's own layer: the class's world from s.heap.size on, the script below -/
def LwS (E : EN) (s : State) (H : Heap) (locs : List Loc) : Prop := va_K (eD E) vwCl (eT E) s ∧ va_S (fun q => s.heap.size ≤ q) s.heap H locs ∧ SC E (fun q => s.heap.size ≤ q) s s.heap ∧ s.heap.size ≤ eB E
theorem LwS.sub {E : EN} {s : State} {H : Heap} {locs : List Loc} {σ : Nat → KD} {N : Nat} {M : Mem} (h : LwS E s H locs) (hN : N ≤ 1000) : ∀ q, va_A (cW E σ N M) H.size q → s.heap.size ≤ q := by
  intro q hq
  rcases hq with ⟨j, ee, hj⟩ | hq
  · obtain ⟨a1, a2⟩ := cW_mem hj
    rw [aE_lt (by omega)] at a2
    have := h.2.2.2
    omega
  · exact Nat.le_trans h.2.1.1 hq
theorem law_pre {E : EN} {s : State} {H : Heap} {locs : List Loc} {σ : Nat → KD} {N : Nat} {M : Mem} (h : LwS E s H locs) (hN : N ≤ 1000) (hP : va_P (eD E) vwCl (cW E σ N M) H) {U : State} (hU : U.heap = H) (hW : s.WarmedH U.vm) : PRE E σ N M H.size U := by
  refine ⟨by rw [hU], by rw [hU]; exact hP, va_K.moved hW.alike h.1, cW_D hN (fun _ _ => trivial), ?_, hN⟩
  rw [hU]
  exact SC.moved hW.alike (fun h => va_Nw.warmF hW h) (SC.narrow (h.sub hN) (SC.kept h.2.1.2.1 h.2.2.1))
theorem law_back {p : Program} {e : Env} {s : State} {m : MethodId} {args : Array Value} {below : List Frame} {meth : Method} {c : Code} {H : Heap} {locs : List Loc} {cells slots k' n' pc : Nat} {lsr : Array Slot} {st s1 : List Value} {E : EN} {σ : Nat → KD} {N : Nat} {M : Mem} {al : Bool} {Q1 : PST} {av : Array Value} {Qf : State → Prop}
    (h : LwS E s H locs) (hN : N ≤ 1000)
    (hr : va_Run p (eL E) e room_1 s m args below meth c H locs cells slots k' n' (F0 m pc lsr s1) st (QC E al (va_A (cW E σ N M) H.size) Q1 av) (va_A (cW E σ N M) H.size))
    (kk : ∀ (v : Option Value) (σ' : Nat → KD) (N' : Nat) (M' : Mem) (H' : Heap) (locs' : List Loc), Q1 v σ' N' M' → LwS E s H' locs' → va_P (eD E) vwCl (cW E σ' N' M') H' → H.size ≤ H'.size → (∀ q : Nat, q < H.size → ¬ va_A (cW E σ N M) H.size q → H'[q]? = H[q]?) → (al = true → H'.size = eB E + N') → W p (eL E) e room_1 s m args below meth c H' locs' (cells + k') (slots + n') Qf (F0 m (pc + 3) lsr ((v.map (cV E)).toList ++ st))) :
    W p (eL E) e room_1 s m args below meth c H locs cells slots Qf (F0 m pc lsr s1) := by
  intro T hT X
  obtain ⟨v, st₀, t, T', L, h0, X', hL, e1, e2, ⟨⟨r, σ', N', M', ho, hQ1, hP1, hK1, hD1, hN1, hz1⟩, hz, hk⟩, stp⟩ := hr T hT X
  have hv : v = r.map (cV E) := by cases ho; rfl
  subst hv
  rw [h0] at hz hk
  have hsub := h.sub (σ := σ) (M := M) hN
  have hS := h.2.1
  obtain ⟨t2, a1, b1⟩ := kk r σ' N' M' T'.heap (locs ++ L) hQ1 ⟨h.1, ⟨Nat.le_trans hS.1 (by rw [e1]; exact hz), fun q h1 h2 => by rw [e1, hk q (Nat.lt_of_lt_of_le h1 hS.1) (fun z => h2 (hsub q z))]; exact hS.2.1 q h1 h2, fun q hq => by
      rcases List.mem_append.mp hq with h | h
      · exact hS.2.2 q h
      · exact hsub _ (hL q h)⟩, h.2.2.1, h.2.2.2⟩ (by rw [e1]; exact hP1) (by rw [e1]; exact hz) (fun q q1 q2 => by rw [e1]; exact hk q q1 q2) (fun q => by rw [e1]; exact hz1 q) T' rfl X'
  exact ⟨t2, stp t2 a1, b1⟩
theorem lw_words {p : Program} {s : State} {m : MethodId} {meth : Method} {c : Code} {b L : Nat} {xs : Nat → Int32} (A0 : lw_At p s m meth c b L xs) : ∀ w ∈ wsL_law, w.before #[Value.ref b] s = true := fun w hw => A0.2.2.2.2.2.1 w (wsL_law_in w hw)
theorem rm1_ok {d' mx k' n' : Nat} (hd : d' ≤ 9) (hmx : mx ≤ 13) : (rmD d' k' n').frames + 1 ≤ room_1.frames ∧ 8 + (mx + 11) + (rmD d' k' n').locals ≤ room_1.locals := by
  refine ⟨?_, ?_⟩
  · show d' + 1 ≤ 10
    omega
  · show 8 + (mx + 11) + d' * 32 ≤ 408
    omega
theorem law_callI {p : Program} {e : Env} {s : State} {m : MethodId} {below : List Frame} {meth : Method} {c : Code} {H : Heap} {locs : List Loc} {cells slots pc : Nat} {lsr : Array Slot} {st st0 : List Value} {lv : List (Nat × Value)} {E : EN} {σ : Nat → KD} {N : Nat} {M : Mem} {b L : Nat} {xs : Nat → Int32} {Qf : State → Prop}
    {J : MI} {idx d' k' n' r : Nat} {ws' : List Cond} {Q1 : PST}
    (A0 : lw_At p s m meth c b L xs) (h : LwS E s H locs) (hP : va_P (eD E) vwCl (cW E σ N M) H) (hl : lv_has lsr 6 lv) (hN : N ≤ 1000) (hd' : d' ≤ 9) (hsz : H.size = eB E + N)
    (hM : MW E J d' k' n' true [.ref r] σ N M Q1) (hG : GoodIn wsL_law (iW J)) (hJ : iW J = Cond.code (iY J) J.1 J.2.1 none :: ws') (hini : Cond.initialized (iY J).cls ∈ wsL_law) (hlk : Cond.methodLink RL idx (iY J) ∈ wsL_law) (hin : Cond.instanceMethod (iY J) ∈ wsL_law) (hy1 : (iY J).name = "<init>")
    (hy : (iY J).cls ≠ "java/lang/invoke/MethodHandle" ∧ (iY J).cls ≠ "java/lang/invoke/VarHandle" ∧ (parseMethodDescriptor (iY J).desc).map (fun d => d.parameters.length) = some 0)
    (hmx : J.2.1 ≤ 13) (hst : (st.map fun v => v.category).sum ≤ 8) (hs0 : st0 = .ref (aE E r) :: st) (hc1 : cells + k' ≤ 600000) (hc2 : slots + n' ≤ 7302249)
    (hd : decode code pc = .ok (.invokespecial idx, 3))
    (kk : ∀ (v : Option Value) (σ' : Nat → KD) (N' : Nat) (M' : Mem) (H' : Heap) (locs' : List Loc), Q1 v σ' N' M' → LwS E s H' locs' → va_P (eD E) vwCl (cW E σ' N' M') H' → H.size ≤ H'.size → (∀ q : Nat, q < H.size → ¬ va_A (cW E σ N M) H.size q → H'[q]? = H[q]?) → H'.size = eB E + N' → W p (eL E) e room_1 s m #[Value.ref b] below meth c H' locs' (cells + k') (slots + n') Qf (F0 m (pc + 3) lsr ((v.map (cV E)).toList ++ st))) :
    W p (eL E) e room_1 s m #[Value.ref b] below meth c H locs cells slots Qf (F0 m pc lsr st0) := by
  refine law_back (st := st) (k' := k') (n' := n') (al := true) (σ := σ) (M := M) (Q1 := Q1) (av := (Value.ref (aE E r) :: ([] : List Value)).toArray) h hN ?_ (fun v σ' N' M' H' locs' q1 q2 q3 q4 q5 q6 => kk v σ' N' M' H' locs' q1 q2 q3 q4 q5 (q6 rfl))
  exact va_runI (As := []) (rest := st) (own := RL) ⟨A0.1, A0.2.1, A0.2.2.2.1, A0.2.2.2.2.1, lw_words A0⟩ (hM H.size (fun _ => hsz)) (cwI 0 (lw_words A0) hG hJ rfl rfl (lw_words A0 _ hini) (lw_words A0 _ hlk) (lw_words A0 _ hin) hy1 hy (rm1_ok hd' hmx)) ⟨pre_blind _ _, fun U hU hW => ⟨rfl, law_pre h hN hP hU hW⟩⟩ rfl rfl hl.1 (by rw [hs0]; rfl) (by show 2 * 0 + _ ≤ 8; omega) hd ⟨hc1, hc2⟩

theorem law_callV {p : Program} {e : Env} {s : State} {m : MethodId} {below : List Frame} {meth : Method} {c : Code} {H : Heap} {locs : List Loc} {cells slots pc : Nat} {lsr : Array Slot} {st st0 : List Value} {lv : List (Nat × Value)} {E : EN} {σ : Nat → KD} {N : Nat} {M : Mem} {b L : Nat} {xs : Nat → Int32} {Qf : State → Prop}
    {J : MI} {idx d' r ci Nf na : Nat} {fk : List (Option (Option Nat))} {T : u_T} {As : List Value} {ws' : List Cond} {P : Int32 → Mem → Prop}
    (A0 : lw_At p s m meth c b L xs) (h : LwS E s H locs) (hP : va_P (eD E) vwCl (cW E σ N M) H) (hl : lv_has lsr 6 lv) (hN : N ≤ 1000) (hd' : d' ≤ 9) (hsz : H.size = eB E + N)
    (hM : MW E J d' 0 0 true (.ref r :: As) σ N M (qI σ N P)) (hG : GoodIn wsL_law (wsV RL idx (iO J) (iY J) (iW J))) (hJ : iW J = Cond.code (iY J) J.1 J.2.1 J.2.2.1 :: ws')
    (hy : (iY J).cls = iO J ∧ (iY J).cls ≠ "java/lang/invoke/MethodHandle" ∧ (iY J).cls ≠ "java/lang/invoke/VarHandle" ∧ (parseMethodDescriptor (iY J).desc).map (fun d => d.parameters.length) = some na) (hna : As.length = na)
    (hσ : σ r = .inr (ci, fk)) (hr : r < N) (hc : vwCl[ci]? = some (iO J, T, Nf)) (hmx : J.2.1 ≤ 13) (hst : (st.map fun v => v.category).sum ≤ 8) (hs0 : st0 = (As.map (cV E)).reverse ++ .ref (aE E r) :: st) (hc1 : cells ≤ 600000) (hc2 : slots ≤ 7302249)
    (hd : decode code pc = .ok (.invokevirtual idx, 3))
    (kk : ∀ (x : Int32) (M' : Mem) (H' : Heap) (locs' : List Loc), P x M' → LwS E s H' locs' → va_P (eD E) vwCl (cW E σ N M') H' → H'.size = eB E + N → W p (eL E) e room_1 s m #[Value.ref b] below meth c H' locs' cells slots Qf (F0 m (pc + 3) lsr (.int x :: st))) :
    W p (eL E) e room_1 s m #[Value.ref b] below meth c H locs cells slots Qf (F0 m pc lsr st0) := by
  have he : (cW E σ N M)[r]? = some (aE E r, .inr (ci, fk.mapIdx (fun k x => cV E (aF (M r) k x)))) := by rw [cW_get hr, hσ]; rfl
  refine law_back (st := st) (k' := 0) (n' := 0) (al := true) (σ := σ) (M := M) (Q1 := qI σ N P) (av := (Value.ref (aE E r) :: As.map (cV E)).toArray) h hN ?_ ?_
  · exact va_runV (As := As.map (cV E)) (rest := st) (own := RL) ⟨A0.1, A0.2.1, A0.2.2.2.1, A0.2.2.2.2.1, lw_words A0⟩ (hM H.size (fun _ => hsz)) (cwV na (lw_words A0) hG hJ rfl rfl hy (rm1_ok hd' hmx)) ⟨pre_blind _ _, va_recv h.1 hP (ci := ci) (q0 := r) hc he, fun U hU hW => ⟨rfl, law_pre h hN hP hU hW⟩⟩ rfl (by rw [List.length_map]; exact hna) hl.1 (by rw [hs0]) (by show 2 * 0 + _ ≤ 8; omega) hd ⟨by show cells + 0 ≤ 600000; omega, by show slots + 0 ≤ 7302249; omega⟩
  · rintro v σ' N' M' H' locs' ⟨x, rfl, rfl, rfl, hx⟩ h' hP' hz hf hz'
    exact kk x M' H' locs' hx h' hP' (hz' rfl)
theorem law_callS {p : Program} {e : Env} {s : State} {m : MethodId} {below : List Frame} {meth : Method} {c : Code} {H : Heap} {locs : List Loc} {cells slots pc : Nat} {lsr : Array Slot} {st st0 : List Value} {lv : List (Nat × Value)} {E : EN} {σ : Nat → KD} {N : Nat} {M : Mem} {b L : Nat} {xs : Nat → Int32} {Qf : State → Prop}
    {J : MI} {idx d' k' n' na : Nat} {As : List Value} {ws' : List Cond} {Q1 : PST}
    (A0 : lw_At p s m meth c b L xs) (h : LwS E s H locs) (hP : va_P (eD E) vwCl (cW E σ N M) H) (hl : lv_has lsr 6 lv) (hN : N ≤ 1000) (hd' : d' ≤ 9) (hsz : H.size = eB E + N)
    (hM : MW E J d' k' n' true As σ N M Q1) (hG : GoodIn wsL_law (va_wsS RL idx (iY J) (iW J))) (hJ : iW J = Cond.code (iY J) J.1 J.2.1 J.2.2.1 :: ws')
    (hy : (iY J).cls ≠ "java/lang/invoke/MethodHandle" ∧ (iY J).cls ≠ "java/lang/invoke/VarHandle" ∧ (parseMethodDescriptor (iY J).desc).map (fun d => d.parameters.length) = some na) (hna : As.length = na)
    (hmx : J.2.1 ≤ 13) (hst : (st.map fun v => v.category).sum ≤ 8) (hs0 : st0 = (As.map (cV E)).reverse ++ st) (hc1 : cells + k' ≤ 600000) (hc2 : slots + n' ≤ 7302249)
    (hd : decode code pc = .ok (.invokestatic idx, 3))
    (kk : ∀ (v : Option Value) (σ' : Nat → KD) (N' : Nat) (M' : Mem) (H' : Heap) (locs' : List Loc), Q1 v σ' N' M' → LwS E s H' locs' → va_P (eD E) vwCl (cW E σ' N' M') H' → H'.size = eB E + N' → W p (eL E) e room_1 s m #[Value.ref b] below meth c H' locs' (cells + k') (slots + n') Qf (F0 m (pc + 3) lsr ((v.map (cV E)).toList ++ st))) :
    W p (eL E) e room_1 s m #[Value.ref b] below meth c H locs cells slots Qf (F0 m pc lsr st0) := by
  refine law_back (st := st) (k' := k') (n' := n') (al := true) (σ := σ) (M := M) (Q1 := Q1) (av := (As.map (cV E)).toArray) h hN ?_ (fun v σ' N' M' H' locs' q1 q2 q3 q4 q5 q6 => kk v σ' N' M' H' locs' q1 q2 q3 (q6 rfl))
  exact va_runS (As := As.map (cV E)) (rest := st) (own := RL) ⟨A0.1, A0.2.1, A0.2.2.2.1, A0.2.2.2.2.1, lw_words A0⟩ (hM H.size (fun _ => hsz)) (va_cwS na (lw_words A0) hG hJ rfl rfl hy (rm1_ok hd' hmx)) ⟨pre_blind _ _, fun U hU hW => ⟨rfl, law_pre h hN hP hU hW⟩⟩ rfl (by rw [List.length_map]; exact hna) hl.1 (by rw [hs0]) (by show 2 * 0 + _ ≤ 8; omega) hd ⟨hc1, hc2⟩
/-- cell: some int, nothing changed -/
theorem hy_L_cell : yL_cell.cls ≠ "java/lang/invoke/MethodHandle" ∧ yL_cell.cls ≠ "java/lang/invoke/VarHandle" ∧ (parseMethodDescriptor yL_cell.desc).map (fun d => d.parameters.length) = some 2 := by decide +kernel
def cellQ : Array Value → State → Outcome → State → Prop := fun _ st oc t => (∃ x : Int32, oc = .returned (some (.int x))) ∧ t.heap = st.heap
theorem c_cell (l : Launch) (b L : Nat) (xs : Nat → Int32) (k : Nat) (hk : k < 1000) (hL : L ≤ 260) : Met l yL_cell wsL_cell (rmD 1 0 0) (va_Pc [.ref b, .int (nI k)] (fun U => va_X b L xs U U.heap)) cellQ 0 0 (fun _ => False) := by
  refine Met.ofW (cc := cL_cell) (maxL := 2) (ret := some .int) (by decide +kernel) rfl ?_
  intro p e s m args below meth c s₁ B hml hv
  obtain ⟨rfl, hX⟩ := hv
  have hlv := lv_entry [.ref b, .int (nI k)] (n := 2) (Nat.le_of_ble_eq_true rfl)
  rw [lg_entry_eq]
  generalize (lg_sl [.ref b, .int (nI k)] ++ List.replicate (2 - (lg_sl [.ref b, .int (nI k)]).length) Slot.unset).toArray = ls at hlv ⊢
  have hl : lv_has ls 2 [(0, .ref b), (1, .int (nI k))] := hlv
  have hb : b < s.heap.size := by
    obtain ⟨scr, h1, -⟩ := id hX
    exact (Array.getElem?_eq_some_iff.mp h1).1
  have hS : va_S (fun _ => False) s.heap s.heap [] := va_S.rf
  have hx := B.exec
  have hc := B.bytes
  have hlk := B.notSynchronized
  have out : ∀ (pc : Nat) (x : Int32), decode cL_cell pc = .ok (.ireturn, 1) → W p l e (rmD 1 0 0) s m [Value.ref b, .int (nI k)].toArray below meth c s.heap [] 0 0 (MQ below cellQ [Value.ref b, .int (nI k)].toArray s 0 0 (fun _ => False)) (F0 m pc ls [.int x]) := by
    intro pc x hd
    exact W.iret hx hc B.returns (fun t ht _ => ⟨⟨x, rfl⟩, ht⟩) (fun q hq => absurd hq List.not_mem_nil) hd hlk
  refine lv_iload_n hx hc dL_cell_0 rfl (lv_at hl 1 rfl) ?_
  refine lv_aload_n hx hc dL_cell_1 rfl (lv_at hl 0 rfl) ?_
  refine va_slen hx hc hX hb (fun h => h) hS dL_cell_2 ?_
  refine lv_icmp_ge (tgt := 12) hx hc dL_cell_3 (by decide) (fun _ => ?_) (fun q => ?_)
  · refine lv_sipush (v := nI 7919) hx hc dL_cell_12 (by decide) ?_
    refine lv_iload_n hx hc dL_cell_15 rfl (lv_at hl 1 rfl) ?_
    refine lv_iconst (v := nI 3) hx hc dL_cell_16 (by decide) ?_
    refine lv_iadd hx hc dL_cell_17 ?_
    refine lv_imul hx hc dL_cell_18 ?_
    refine lv_iload_n hx hc dL_cell_19 rfl (lv_at hl 1 rfl) ?_
    refine lv_bipush (v := nI 11) hx hc dL_cell_20 (by decide) ?_
    refine lv_iadd hx hc dL_cell_22 ?_
    refine lv_imul hx hc dL_cell_23 ?_
    exact out _ _ dL_cell_24
  · have hkL : k < L := by
      have q : ¬ nI L ≤ nI k := q
      rw [nI_leI (by omega) (by omega)] at q
      omega
    refine lv_aload_n hx hc dL_cell_6 rfl (lv_at hl 0 rfl) ?_
    refine lv_iload_n hx hc dL_cell_7 rfl (lv_at hl 1 rfl) ?_
    refine va_sld hx hc hX hb (fun h => h) hS (vp_in_nI hkL (by omega)) dL_cell_8 ?_
    refine lv_goto (tgt := 24) hx hc dL_cell_9 (by decide) ?_
    exact out _ _ dL_cell_24
theorem law_cell {p : Program} {e : Env} {s : State} {m : MethodId} {below : List Frame} {meth : Method} {c : Code} {H : Heap} {locs : List Loc} {cells slots pc k : Nat} {lsr : Array Slot} {st st0 : List Value} {lv : List (Nat × Value)} {E : EN} {b L : Nat} {xs : Nat → Int32} {Qf : State → Prop}
    (A0 : lw_At p s m meth c b L xs) (h : LwS E s H locs) (hl : lv_has lsr 6 lv) (hk : k < 1000) (hL : L ≤ 260) (hst : (st.map fun v => v.category).sum ≤ 8) (hs0 : st0 = .int (nI k) :: .ref b :: st) (hc1 : cells ≤ 600000) (hc2 : slots ≤ 7302249)
    (hd : decode code pc = .ok (.invokestatic 82, 3))
    (kk : ∀ (x : Int32) (locs' : List Loc), LwS E s H locs' → W p (eL E) e room_1 s m #[Value.ref b] below meth c H locs' cells slots Qf (F0 m (pc + 3) lsr (.int x :: st))) :
    W p (eL E) e room_1 s m #[Value.ref b] below meth c H locs cells slots Qf (F0 m pc lsr st0) := by
  have hbl := A0.2.2.2.2.2.2.2.1
  have hXH : va_X b L xs s H := A0.2.2.2.2.2.2.1.kept (h.2.1.2.1 b hbl (Nat.not_le.mpr hbl))
  intro T hT X
  obtain ⟨v, st₀, t, T', L', h0, X', hL', e1, e2, ⟨⟨x, ho⟩, hh⟩, stp⟩ := va_runS (As := [.ref b, .int (nI k)]) (rest := st) (own := RL) (g := F0 m pc lsr st0) ⟨A0.1, A0.2.1, A0.2.2.2.1, A0.2.2.2.2.1, lw_words A0⟩ (c_cell (eL E) b L xs k hk hL) (va_cwS 2 (lw_words A0) gL_law_L_cell rfl rfl rfl hy_L_cell (rm1_ok (by decide) (by decide)))
    ⟨fun a U g mk q => ⟨q.1, va_X.moved (u := U) (U := U.calling g mk a) (Vm.Alike.refl U.vm) q.2⟩, fun U hU hW => ⟨rfl, (show va_X b L xs U U.heap by rw [hU]; exact va_X.moved hW.alike hXH)⟩⟩ rfl rfl hl.1 (by rw [hs0]; rfl) (by show 2 * 0 + _ ≤ 8; omega) hd ⟨by show cells + 0 ≤ 600000; omega, by show slots + 0 ≤ 7302249; omega⟩ T hT X
  have hv : v = some (.int x) := by cases ho; rfl
  subst hv
  have eH : T'.heap = H := by rw [e1, hh, h0]
  obtain ⟨t2, a1, b1⟩ := kk x (locs ++ L') ⟨h.1, ⟨h.2.1.1, h.2.1.2.1, fun q hq => by
      rcases List.mem_append.mp hq with z | z
      · exact h.2.1.2.2 q z
      · exact (hL' q z).elim⟩, h.2.2.1, h.2.2.2⟩ T' eH X'
  exact ⟨t2, stp t2 a1, b1⟩
