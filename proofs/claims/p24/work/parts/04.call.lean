/-! returns, entries, calls, new cells, in the words of 10.wp -/
section WPC
variable {E : EN} {I : MI} {d k n : Nat} {al : Bool} {pc : Nat} {ls : List (Nat × Value)} {st : List Value} {σ : Nat → KD} {N : Nat} {M : Nat → Nat → Int32} {Q : PST}
theorem wp_ireturn {v : Int32} {ty : FieldType} (hrt : I.2.2.1 = some ty) (hn : narrow ty (.int v) = .int v) (hd : decode I.1 pc = .ok (.ireturn, 1)) (hQ : Q (some (.int v)) σ N M) : WP E I d k n al pc ls [.int v] σ N M Q := by
  intro p e s m args below meth c H locs cells slots mc ms A lsr a b c1 c2
  obtain ⟨hK, hP, hD, hS, hA, hlv, hSC, hN, hsz⟩ := b
  refine W.widen (k := mc) (n := ms) (by omega) (by omega) ?_
  exact W.zret (v := v) (ty := ty) a.1 a.2.1 (a.2.2.2.1.trans hrt) hn (fun t ht hW => ⟨⟨some (.int v), σ, N, M, rfl, hQ, by rw [ht]; exact hP, va_K.moved hW.alike hK, hD, hN, fun q => by rw [ht]; exact hsz q⟩, hS.F ht⟩) hS.2.2 hd a.2.2.2.2.2.2.1
theorem wp_return (hrt : I.2.2.1 = none) (hd : decode I.1 pc = .ok (.return_, 1)) (hQ : Q none σ N M) : WP E I d k n al pc ls [] σ N M Q := by
  intro p e s m args below meth c H locs cells slots mc ms A lsr a b c1 c2
  obtain ⟨hK, hP, hD, hS, hA, hlv, hSC, hN, hsz⟩ := b
  refine W.widen (k := mc) (n := ms) (by omega) (by omega) ?_
  exact W.vret a.1 a.2.1 (a.2.2.2.1.trans hrt) (fun t ht hW => ⟨⟨none, σ, N, M, rfl, hQ, by rw [ht]; exact hP, va_K.moved hW.alike hK, hD, hN, fun q => by rw [ht]; exact hsz q⟩, hS.F ht⟩) hS.2.2 hd a.2.2.2.2.2.2.1
theorem wp_areturn {v : Value} {C : String} (hv : v = .null ∨ ∃ r, v = .ref r) (hrt : I.2.2.1 = some (.object C)) (hd : decode I.1 pc = .ok (.areturn, 1)) (hQ : Q (some v) σ N M) : WP E I d k n al pc ls [v] σ N M Q := by
  intro p e s m args below meth c H locs cells slots mc ms A lsr a b c1 c2
  obtain ⟨hK, hP, hD, hS, hA, hlv, hSC, hN, hsz⟩ := b
  refine W.widen (k := mc) (n := ms) (by omega) (by omega) ?_
  exact W.aret (v := cV E v) a.1 a.2.1 (a.2.2.2.1.trans hrt) (Or.inl ⟨C, rfl⟩) (by rcases hv with rfl | ⟨r, rfl⟩; exact Or.inl rfl; exact Or.inr ⟨_, rfl⟩) (fun t ht hW => ⟨⟨some v, σ, N, M, rfl, hQ, by rw [ht]; exact hP, va_K.moved hW.alike hK, hD, hN, fun q => by rw [ht]; exact hsz q⟩, hS.F ht⟩) hS.2.2 hd a.2.2.2.2.2.2.1
theorem lg_len (E : EN) (av : List Value) : (lg_sl (av.map (cV E))).length = (lg_sl av).length := by
  induction av with
  | nil => rfl
  | cons v r ih =>
    simp only [lg_sl, List.map_cons, List.flatMap_cons, List.length_append, cV_cat] at ih ⊢
    rw [ih]
    split <;> rfl
theorem la_map (E : EN) (av : List Value) : ∀ i, lv_args i (av.map (cV E)) = (lv_args i av).map (cL E) := by
  induction av with
  | nil => intro i; rfl
  | cons v r ih =>
    intro i
    simp only [List.map_cons, lv_args, cV_cat, ih]
    rfl
theorem mw_intro {av : List Value} {ws' : List Cond} (hI : iW I = Cond.code (iY I) I.1 I.2.1 I.2.2.1 :: ws') (hy : plainName (iY I).cls = true) (hown : (iY I).cls = iO I) (hls : lv_args 0 av = ls) (hlen : (lg_sl av).length ≤ I.2.1) (h : WP E I d k n al 0 ls [] σ N M Q) : MW E I d k n al av σ N M Q := by
  intro sz hsz
  refine Met.ofW (cc := I.1) (maxL := I.2.1) (ret := I.2.2.1) hy hI ?_
  intro p e s m args below meth c s₁ B hml hv
  obtain ⟨rfl, hz, hP, hK, hD0, hSC, hN⟩ := hv
  subst hz
  have hD := hD0.self (sz := s.heap.size)
  have hlv := lv_entry (av.map (cV E)) (n := I.2.1) (by rw [lg_len]; exact hlen)
  rw [lg_entry_eq]
  have hw : s.vm.findClass (iY I).cls = some m.cls := findClass_of_methodNamed B.named
  rw [hown] at hw
  rw [la_map, hls] at hlv
  exact h p e s m _ below meth c s.heap [] 0 0 k n (va_A (cW E σ N M) s.heap.size) _ ⟨B.exec, B.bytes, hml, B.returns, hw, atoms_spec B.pre, B.notSynchronized, (name_of_methodNamed B.named B.method).1⟩ ⟨hK, hP, hD, va_S.rf, fun q hq => Or.inr hq, hlv, hSC, hN, hsz⟩ (by omega) (by omega)
theorem pre_blind (av : List Value) (sz : Nat) : FrameBlind (va_Pc av (PRE E σ N M sz)) := by
  intro a U g mk q
  obtain ⟨q0, q1, qP, qK, qD, qS, qN⟩ := q
  exact ⟨q0, q1, qP, va_K.moved (u := U) (U := U.calling g mk a) (Vm.Alike.refl U.vm) qK, qD, SC.moved (Vm.Alike.refl U.vm) (fun h => va_Nw.same rfl rfl h) qS, qN⟩
theorem pre_at {s : State} {H : Heap} {locs : List Loc} {A : Nat → Prop} {lsr : Array Slot} (b : CB E I al s H locs A lsr ls σ N M) {U : State} (hU : U.heap = H) (hW : s.WarmedH U.vm) : PRE E σ N M H.size U := by
  obtain ⟨hK, hP, hD, hS, hA, hlv, hSC, hN, hsz⟩ := b
  refine ⟨by rw [hU], by rw [hU]; exact hP, va_K.moved hW.alike hK, hD.weaken (fun _ _ _ _ => trivial), ?_, hN⟩
  rw [hU]
  refine SC.moved hW.alike (fun h => va_Nw.warmF hW h) (SC.narrow ?_ (SC.kept hS.2.1 hSC))
  intro q hq
  rcases hq with ⟨j, ee, hj⟩ | hq
  · exact hD.2 j (q, ee) hj
  · exact hA q (Nat.le_trans hS.1 hq)
/-- behind a call -/
theorem wp_back {p : Program} {e : Env} {s : State} {m : MethodId} {args : Array Value} {below : List Frame} {meth : Method} {c : Code} {H : Heap} {locs : List Loc} {cells slots mc ms : Nat} {A : Nat → Prop} {lsr : Array Slot} {k' n' k'' n'' : Nat} {Q1 : PST} {g : JFrame} {av : Array Value}
    (a : CA I p s m args meth c) (b : CB E I al s H locs A lsr ls σ N M) (hg : ∃ s1, g = F0 m pc lsr s1) (c1 : cells + (k' + k'') ≤ mc) (c2 : slots + (n' + n'') ≤ ms)
    (hr : va_Run p (eL E) e (rmD d mc ms) s m args below meth c H locs cells slots k' n' g (st.map (cV E)) (QC E al (va_A (cW E σ N M) H.size) Q1 av) (va_A (cW E σ N M) H.size))
    (kk : ∀ v σ' N' M', Q1 v σ' N' M' → WP E I d k'' n'' al (pc + 3) ls (v.toList ++ st) σ' N' M' Q) :
    W p (eL E) e (rmD d mc ms) s m args below meth c H locs cells slots (MQ below (QC E al A Q) args s mc ms A) g := by
  obtain ⟨s1, rfl⟩ := hg
  obtain ⟨hK, hP, hD, hS, hA, hlv, hSC, hN, hsz⟩ := b
  have hFc : ∀ q, va_A (cW E σ N M) H.size q → A q := by
    intro q hq
    rcases hq with ⟨j, ee, hj⟩ | hq
    · exact hD.2 j (q, ee) hj
    · exact hA q (Nat.le_trans hS.1 hq)
  intro T hT X
  obtain ⟨v, st₀, t, T', L, h0, X', hL, e1, e2, ⟨⟨r, σ', N', M', ho, hQ1, hP1, hK1, hD1, hN1, hz1⟩, hz, hk⟩, stp⟩ := hr T hT X
  have hv : v = r.map (cV E) := by cases ho; rfl
  subst hv
  rw [h0] at hz hk
  have b' : CB E I al s T'.heap (locs ++ L) A lsr ls σ' N' M' := ⟨hK, by rw [e1]; exact hP1, hD1.weaken (fun j q _ h => hFc q.1 h), ⟨Nat.le_trans hS.1 (by rw [e1]; exact hz), fun q h1 h2 => by rw [e1, hk q (Nat.lt_of_lt_of_le h1 hS.1) (fun z => h2 (hFc q z))]; exact hS.2.1 q h1 h2, fun q hq => by
      rcases List.mem_append.mp hq with h | h
      · exact hS.2.2 q h
      · exact hFc _ (hL q h)⟩, hA, hlv, hSC, hN1, fun q => by rw [e1]; exact hz1 q⟩
  obtain ⟨t2, a1, b1⟩ := kk r σ' N' M' hQ1 p e s m args below meth c T'.heap (locs ++ L) (cells + k') (slots + n') mc ms A lsr a b' (by omega) (by omega) T' rfl X'
  refine ⟨t2, stp t2 ?_, b1⟩
  have eg : ({ (F0 m pc lsr s1) with pc := (F0 m pc lsr s1).pc + 3, stack := (r.map (cV E)).toList ++ st.map (cV E) } : JFrame) = F0 m (pc + 3) lsr ((r.toList ++ st).map (cV E)) := by
    cases r <;> rfl
  rw [eg]
  exact a1
theorem rm_ok {d d' mc ms k' n' : Nat} {mx : Nat} (hdep : d' + 1 ≤ d) (hmx : mx ≤ 13) : (rmD d' k' n').frames + 1 ≤ (rmD d mc ms).frames ∧ 8 + (mx + 11) + (rmD d' k' n').locals ≤ (rmD d mc ms).locals := by
  refine ⟨hdep, ?_⟩
  show 8 + (mx + 11) + d' * 32 ≤ d * 32
  omega
theorem wp_callV {J : MI} {idx d' k' n' k'' n'' r ci Nf na : Nat} {fk : List (Option (Option Nat))} {T : u_T} {As : List Value} {ws' : List Cond} {Q1 : PST} {st0 : List Value}
    (hM : MW E J d' k' n' al (.ref r :: As) σ N M Q1) (hG : GoodIn (iW I) (wsV (iO I) idx (iO J) (iY J) (iW J))) (hJ : iW J = Cond.code (iY J) J.1 J.2.1 J.2.2.1 :: ws')
    (hy : (iY J).cls = iO J ∧ (iY J).cls ≠ "java/lang/invoke/MethodHandle" ∧ (iY J).cls ≠ "java/lang/invoke/VarHandle" ∧ (parseMethodDescriptor (iY J).desc).map (fun d => d.parameters.length) = some na) (hna : As.length = na)
    (hσ : σ r = .inr (ci, fk)) (hr : r < N) (hc : vwCl[ci]? = some (iO J, T, Nf)) (hdep : d' + 1 ≤ d) (hmx : J.2.1 ≤ 13) (hst : (st.map fun v => v.category).sum ≤ 8) (hs0 : st0 = As.reverse ++ .ref r :: st) (hk : k = k' + k'') (hn : n = n' + n'')
    (hd : decode I.1 pc = .ok (.invokevirtual idx, 3)) (kk : ∀ v σ' N' M', Q1 v σ' N' M' → WP E I d k'' n'' al (pc + 3) ls (v.toList ++ st) σ' N' M' Q) : WP E I d k n al pc ls st0 σ N M Q := by
  subst hs0; subst hk; subst hn
  intro p e s m args below meth c H locs cells slots mc ms A lsr a b c1 c2
  have he : (cW E σ N M)[r]? = some (aE E r, .inr (ci, fk.mapIdx (fun k x => cV E (aF (M r) k x)))) := by rw [cW_get hr, hσ]; rfl
  refine wp_back (st := st) (av := (Value.ref (aE E r) :: As.map (cV E)).toArray) a b ⟨_, rfl⟩ c1 c2 ?_ kk
  exact va_runV (As := As.map (cV E)) (rest := st.map (cV E)) ⟨a.1, a.2.1, a.2.2.1, a.2.2.2.2.1, a.2.2.2.2.2.1⟩ (hM H.size b.2.2.2.2.2.2.2.2) (cwV na a.2.2.2.2.2.1 hG hJ rfl rfl hy (rm_ok hdep hmx)) ⟨pre_blind _ _, va_recv b.1 b.2.1 (ci := ci) (q0 := r) hc he, fun U hU hW => ⟨rfl, pre_at b hU hW⟩⟩ rfl (by rw [List.length_map]; exact hna) b.2.2.2.2.2.1.1 (by simp [cV]) (by show 2 * 0 + _ ≤ _; rw [cat_map]; omega) hd ⟨by show cells + k' ≤ mc; omega, by show slots + n' ≤ ms; omega⟩
theorem wp_callS {J : MI} {idx d' k' n' k'' n'' na : Nat} {As : List Value} {ws' : List Cond} {Q1 : PST} {st0 : List Value}
    (hM : MW E J d' k' n' al As σ N M Q1) (hG : GoodIn (iW I) (va_wsS (iO I) idx (iY J) (iW J))) (hJ : iW J = Cond.code (iY J) J.1 J.2.1 J.2.2.1 :: ws')
    (hy : (iY J).cls ≠ "java/lang/invoke/MethodHandle" ∧ (iY J).cls ≠ "java/lang/invoke/VarHandle" ∧ (parseMethodDescriptor (iY J).desc).map (fun d => d.parameters.length) = some na) (hna : As.length = na)
    (hdep : d' + 1 ≤ d) (hmx : J.2.1 ≤ 13) (hst : (st.map fun v => v.category).sum ≤ 8) (hs0 : st0 = As.reverse ++ st) (hk : k = k' + k'') (hn : n = n' + n'')
    (hd : decode I.1 pc = .ok (.invokestatic idx, 3)) (kk : ∀ v σ' N' M', Q1 v σ' N' M' → WP E I d k'' n'' al (pc + 3) ls (v.toList ++ st) σ' N' M' Q) : WP E I d k n al pc ls st0 σ N M Q := by
  subst hs0; subst hk; subst hn
  intro p e s m args below meth c H locs cells slots mc ms A lsr a b c1 c2
  refine wp_back (st := st) (av := (As.map (cV E)).toArray) a b ⟨_, rfl⟩ c1 c2 ?_ kk
  exact va_runS (As := As.map (cV E)) (rest := st.map (cV E)) ⟨a.1, a.2.1, a.2.2.1, a.2.2.2.2.1, a.2.2.2.2.2.1⟩ (hM H.size b.2.2.2.2.2.2.2.2) (va_cwS na a.2.2.2.2.2.1 hG hJ rfl rfl hy (rm_ok hdep hmx)) ⟨pre_blind _ _, fun U hU hW => ⟨rfl, pre_at b hU hW⟩⟩ rfl (by rw [List.length_map]; exact hna) b.2.2.2.2.2.1.1 (by simp) (by show 2 * 0 + _ ≤ _; rw [cat_map]; omega) hd ⟨by show cells + k' ≤ mc; omega, by show slots + n' ≤ ms; omega⟩
theorem wp_callI {J : MI} {idx d' k' n' k'' n'' r na : Nat} {As : List Value} {ws' : List Cond} {Q1 : PST} {st0 : List Value}
    (hM : MW E J d' k' n' al (.ref r :: As) σ N M Q1) (hG : GoodIn (iW I) (iW J)) (hJ : iW J = Cond.code (iY J) J.1 J.2.1 none :: ws') (hini : Cond.initialized (iY J).cls ∈ iW I) (hlk : Cond.methodLink (iO I) idx (iY J) ∈ iW I) (hin : Cond.instanceMethod (iY J) ∈ iW I) (hy1 : (iY J).name = "<init>")
    (hy : (iY J).cls ≠ "java/lang/invoke/MethodHandle" ∧ (iY J).cls ≠ "java/lang/invoke/VarHandle" ∧ (parseMethodDescriptor (iY J).desc).map (fun d => d.parameters.length) = some na) (hna : As.length = na)
    (hdep : d' + 1 ≤ d) (hmx : J.2.1 ≤ 13) (hst : (st.map fun v => v.category).sum ≤ 8) (hs0 : st0 = As.reverse ++ .ref r :: st) (hk : k = k' + k'') (hn : n = n' + n'')
    (hd : decode I.1 pc = .ok (.invokespecial idx, 3)) (kk : ∀ v σ' N' M', Q1 v σ' N' M' → WP E I d k'' n'' al (pc + 3) ls (v.toList ++ st) σ' N' M' Q) : WP E I d k n al pc ls st0 σ N M Q := by
  subst hs0; subst hk; subst hn
  intro p e s m args below meth c H locs cells slots mc ms A lsr a b c1 c2
  refine wp_back (st := st) (av := (Value.ref (aE E r) :: As.map (cV E)).toArray) a b ⟨_, rfl⟩ c1 c2 ?_ kk
  exact va_runI (As := As.map (cV E)) (rest := st.map (cV E)) ⟨a.1, a.2.1, a.2.2.1, a.2.2.2.2.1, a.2.2.2.2.2.1⟩ (hM H.size b.2.2.2.2.2.2.2.2) (cwI na a.2.2.2.2.2.1 hG hJ rfl rfl (a.2.2.2.2.2.1 _ hini) (a.2.2.2.2.2.1 _ hlk) (a.2.2.2.2.2.1 _ hin) hy1 hy (rm_ok hdep hmx)) ⟨pre_blind _ _, fun U hU hW => ⟨rfl, pre_at b hU hW⟩⟩ rfl (by rw [List.length_map]; exact hna) b.2.2.2.2.2.1.1 (by simp [cV]) (by show 2 * 0 + _ ≤ _; rw [cat_map]; omega) hd ⟨by show cells + k' ≤ mc; omega, by show slots + n' ≤ ms; omega⟩
theorem wp_objInit {idx r : Nat} (hlk : Cond.methodLink (iO I) idx objectInit ∈ iW I) (hin : Cond.instanceMethod objectInit ∈ iW I) (hco : Cond.code objectInit ⟨#[0xb1]⟩ 1 none ∈ iW I) (hd1 : 1 ≤ d) (hst : (st.map fun v => v.category).sum ≤ 8) (hd : decode I.1 pc = .ok (.invokespecial idx, 3)) (h : WP E I d k n al (pc + 3) ls st σ N M Q) : WP E I d k n al pc ls (.ref r :: st) σ N M Q := by
  intro p e s m args below meth c H locs cells slots mc ms A lsr a b c1 c2
  refine W.objInit a.1 a.2.1 a.2.2.2.2.1 (a.2.2.2.2.2.1 _ hlk) (a.2.2.2.2.2.1 _ hin) (a.2.2.2.2.2.1 _ hco) rfl (b.2.2.2.2.2.1.1.trans a.2.2.1.symm) rfl hd hd1 (by show 2 * 0 + _ + 12 ≤ d * 32; rw [cat_map]; omega) ?_
  exact h p e s m args below meth c H locs cells slots mc ms A lsr a b c1 c2
theorem wp_mmin {idx : Nat} {x y : Int32} (hlk : Cond.methodLink (iO I) idx Lib.Math.min.name ∈ iW I) (hs : Cond.static Lib.Math.min.name ∈ iW I) (hi : Cond.initialized "java/lang/Math" ∈ iW I) (hco : Cond.code Lib.Math.min.name Lib.Math.min.code 2 (some .int) ∈ iW I) (hd1 : 1 ≤ d) (hst : (st.map fun v => v.category).sum ≤ 8) (hd : decode I.1 pc = .ok (.invokestatic idx, 3)) (h : WP E I d k n al (pc + 3) ls (.int (if y < x then y else x) :: st) σ N M Q) : WP E I d k n al pc ls (.int y :: .int x :: st) σ N M Q := by
  intro p e s m args below meth c H locs cells slots mc ms A lsr a b c1 c2
  exact va_mmin a.1 a.2.1 (a.2.2.1.trans b.2.2.2.2.2.1.1.symm) a.2.2.2.2.1 (a.2.2.2.2.2.1 _ hlk) (a.2.2.2.2.2.1 _ hs) (a.2.2.2.2.2.1 _ hi) (a.2.2.2.2.2.1 _ hco) hd1 (by show _ + 13 ≤ d * 32; rw [cat_map]; omega) (by show cells ≤ mc; omega) (by show slots ≤ ms; omega) hd (h p e s m args below meth c H locs cells slots mc ms A lsr a b c1 c2)
theorem wp_mmax {idx : Nat} {x y : Int32} (hlk : Cond.methodLink (iO I) idx Lib.Math.max.name ∈ iW I) (hs : Cond.static Lib.Math.max.name ∈ iW I) (hi : Cond.initialized "java/lang/Math" ∈ iW I) (hco : Cond.code Lib.Math.max.name Lib.Math.max.code 2 (some .int) ∈ iW I) (hd1 : 1 ≤ d) (hst : (st.map fun v => v.category).sum ≤ 8) (hd : decode I.1 pc = .ok (.invokestatic idx, 3)) (h : WP E I d k n al (pc + 3) ls (.int (if x < y then y else x) :: st) σ N M Q) : WP E I d k n al pc ls (.int y :: .int x :: st) σ N M Q := by
  intro p e s m args below meth c H locs cells slots mc ms A lsr a b c1 c2
  exact va_mmax a.1 a.2.1 (a.2.2.1.trans b.2.2.2.2.2.1.1.symm) a.2.2.2.2.1 (a.2.2.2.2.2.1 _ hlk) (a.2.2.2.2.2.1 _ hs) (a.2.2.2.2.2.1 _ hi) (a.2.2.2.2.2.1 _ hco) hd1 (by show _ + 13 ≤ d * 32; rw [cat_map]; omega) (by show cells ≤ mc; omega) (by show slots ≤ ms; omega) hd (h p e s m args below meth c H locs cells slots mc ms A lsr a b c1 c2)
/-- System.arraycopy between two int arrays of the world (no cell is being made) -/
theorem wp_copy {idx r0 r1 n0 n1 : Nat} {sp dp z : Int32} (hlk : Cond.methodLink (iO I) idx arraycopyName ∈ iW I) (hna : Cond.native arraycopyName ∈ iW I) (hs : Cond.static arraycopyName ∈ iW I) (hi : Cond.initialized "java/lang/System" ∈ iW I)
    (hσ0 : σ r0 = .inl (0, n0, false)) (hr0 : r0 < N) (hσ1 : σ r1 = .inl (0, n1, false)) (hr1 : r1 < N) (h1 : ¬ sp < 0) (h2 : ¬ dp < 0) (h3 : ¬ z < 0) (h4 : sp.toNatClampNeg + z.toNatClampNeg ≤ n0) (h5 : dp.toNatClampNeg + z.toNatClampNeg ≤ n1) (hd1 : 1 ≤ d) (hst : (st.map fun v => v.category).sum ≤ 8)
    (hd : decode I.1 pc = .ok (.invokestatic idx, 3)) (h : ∀ M1, M1 = um M r1 (va_cpy (M r0) (M r1) sp.toNatClampNeg dp.toNatClampNeg z.toNatClampNeg) → WP E I d k n false (pc + 3) ls st σ N M1 Q) : WP E I d k n false pc ls (.int z :: .int dp :: .ref r1 :: .int sp :: .ref r0 :: st) σ N M Q := by
  intro p e s m args below meth c H locs cells slots mc ms A lsr a b c1 c2
  obtain ⟨hK, hP, hD, hS, hA, hlv, hSC, hN, hsz⟩ := b
  have he0 : (cW E σ N M)[r0]? = some (aE E r0, .inl (eC E 0, n0, .inl (M r0))) := by rw [cW_get hr0, hσ0]; rfl
  have he1 : (cW E σ N M)[r1]? = some (aE E r1, .inl (eC E 0, n1, .inl (M r1))) := by rw [cW_get hr1, hσ1]; rfl
  refine va_copyi (a := aE E r1) (a0 := aE E r0) (q0 := r0) (q1 := r1) (t0 := 0) (t1 := 0) (ty := .int) a.1 a.2.1 (a.2.2.1.trans hlv.1.symm) a.2.2.2.2.1 (a.2.2.2.2.2.1 _ hlk) (a.2.2.2.2.2.1 _ hna) (a.2.2.2.2.2.1 _ hs) (a.2.2.2.2.2.1 _ hi) hK hP hD hS he0 he1 rfl rfl rfl h1 h2 h3 h4 h5 (fun _ _ => rfl) hd1 (by show _ + (nativeFrameWords "java/lang/System" "arraycopy" 5 + 11) ≤ d * 32; rw [cat_map, show nativeFrameWords "java/lang/System" "arraycopy" 5 = 7 by decide]; omega) hd (fun H1 locs1 hP1 hD1 hS1 => ?_)
  have ew : (cW E σ N M).set r1 (aE E r1, .inl (eC E 0, n1, .inl (va_cpy (M r0) (M r1) sp.toNatClampNeg dp.toNatClampNeg z.toNatClampNeg))) = cW E σ N (um M r1 (va_cpy (M r0) (M r1) sp.toNatClampNeg dp.toNatClampNeg z.toNatClampNeg)) := cW_set' _ (by rw [hσ1]; rfl)
  rw [ew] at hP1 hD1
  exact h _ rfl p e s m args below meth c H1 locs1 cells slots mc ms A lsr a ⟨hK, hP1, hD1, hS1, hA, hlv, hSC, hN, fun q => by cases q⟩ c1 c2
/-- what a method answers, and with which memory; the shape stays -/
def qI (σ : Nat → KD) (N : Nat) (P : Int32 → (Nat → Nat → Int32) → Prop) : PST := fun v σ' N' M' => ∃ x, v = some (.int x) ∧ σ' = σ ∧ N' = N ∧ P x M'
def qA (σ : Nat → KD) (N : Nat) (P : Int32 → (Nat → Nat → Int32) → Prop) : PST := fun v σ' N' M' => ∃ x, v = some (aR x) ∧ σ' = σ ∧ N' = N ∧ P x M'
def qV (σ : Nat → KD) (N : Nat) (P : (Nat → Nat → Int32) → Prop) : PST := fun v σ' N' M' => v = none ∧ σ' = σ ∧ N' = N ∧ P M'
theorem wp_cVi {J : MI} {idx d' r ci Nf na : Nat} {fk : List (Option (Option Nat))} {T : u_T} {As : List Value} {ws' : List Cond} {P : Int32 → (Nat → Nat → Int32) → Prop} {st0 : List Value}
    (hM : MW E J d' 0 0 false (.ref r :: As) σ N M (qI σ N P)) (hG : GoodIn (iW I) (wsV (iO I) idx (iO J) (iY J) (iW J))) (hJ : iW J = Cond.code (iY J) J.1 J.2.1 J.2.2.1 :: ws')
    (hy : (iY J).cls = iO J ∧ (iY J).cls ≠ "java/lang/invoke/MethodHandle" ∧ (iY J).cls ≠ "java/lang/invoke/VarHandle" ∧ (parseMethodDescriptor (iY J).desc).map (fun d => d.parameters.length) = some na) (hna : As.length = na)
    (hσ : σ r = .inr (ci, fk)) (hr : r < N) (hc : vwCl[ci]? = some (iO J, T, Nf)) (hdep : d' + 1 ≤ d) (hmx : J.2.1 ≤ 13) (hst : (st.map fun v => v.category).sum ≤ 8) (hs0 : st0 = As.reverse ++ .ref r :: st)
    (hd : decode I.1 pc = .ok (.invokevirtual idx, 3)) (kk : ∀ x M', P x M' → WP E I d 0 0 false (pc + 3) ls (.int x :: st) σ N M' Q) : WP E I d 0 0 false pc ls st0 σ N M Q :=
  by
  refine wp_callV (k' := 0) (n' := 0) (k'' := 0) (n'' := 0) hM hG hJ hy hna hσ hr hc hdep hmx hst hs0 rfl rfl hd ?_
  intro v σ' N' M' h
  obtain ⟨x, hv, h1, h2, h3⟩ := h
  rw [hv, h1, h2]
  exact kk x M' h3
theorem wp_cVa {J : MI} {idx d' r ci Nf na : Nat} {fk : List (Option (Option Nat))} {T : u_T} {As : List Value} {ws' : List Cond} {P : Int32 → (Nat → Nat → Int32) → Prop} {st0 : List Value}
    (hM : MW E J d' 0 0 false (.ref r :: As) σ N M (qA σ N P)) (hG : GoodIn (iW I) (wsV (iO I) idx (iO J) (iY J) (iW J))) (hJ : iW J = Cond.code (iY J) J.1 J.2.1 J.2.2.1 :: ws')
    (hy : (iY J).cls = iO J ∧ (iY J).cls ≠ "java/lang/invoke/MethodHandle" ∧ (iY J).cls ≠ "java/lang/invoke/VarHandle" ∧ (parseMethodDescriptor (iY J).desc).map (fun d => d.parameters.length) = some na) (hna : As.length = na)
    (hσ : σ r = .inr (ci, fk)) (hr : r < N) (hc : vwCl[ci]? = some (iO J, T, Nf)) (hdep : d' + 1 ≤ d) (hmx : J.2.1 ≤ 13) (hst : (st.map fun v => v.category).sum ≤ 8) (hs0 : st0 = As.reverse ++ .ref r :: st)
    (hd : decode I.1 pc = .ok (.invokevirtual idx, 3)) (kk : ∀ x M', P x M' → WP E I d 0 0 false (pc + 3) ls (aR x :: st) σ N M' Q) : WP E I d 0 0 false pc ls st0 σ N M Q :=
  by
  refine wp_callV (k' := 0) (n' := 0) (k'' := 0) (n'' := 0) hM hG hJ hy hna hσ hr hc hdep hmx hst hs0 rfl rfl hd ?_
  intro v σ' N' M' h
  obtain ⟨x, hv, h1, h2, h3⟩ := h
  rw [hv, h1, h2]
  exact kk x M' h3
theorem wp_cVv {J : MI} {idx d' r ci Nf na : Nat} {fk : List (Option (Option Nat))} {T : u_T} {As : List Value} {ws' : List Cond} {P : (Nat → Nat → Int32) → Prop} {st0 : List Value}
    (hM : MW E J d' 0 0 false (.ref r :: As) σ N M (qV σ N P)) (hG : GoodIn (iW I) (wsV (iO I) idx (iO J) (iY J) (iW J))) (hJ : iW J = Cond.code (iY J) J.1 J.2.1 J.2.2.1 :: ws')
    (hy : (iY J).cls = iO J ∧ (iY J).cls ≠ "java/lang/invoke/MethodHandle" ∧ (iY J).cls ≠ "java/lang/invoke/VarHandle" ∧ (parseMethodDescriptor (iY J).desc).map (fun d => d.parameters.length) = some na) (hna : As.length = na)
    (hσ : σ r = .inr (ci, fk)) (hr : r < N) (hc : vwCl[ci]? = some (iO J, T, Nf)) (hdep : d' + 1 ≤ d) (hmx : J.2.1 ≤ 13) (hst : (st.map fun v => v.category).sum ≤ 8) (hs0 : st0 = As.reverse ++ .ref r :: st)
    (hd : decode I.1 pc = .ok (.invokevirtual idx, 3)) (kk : ∀ M', P M' → WP E I d 0 0 false (pc + 3) ls (st) σ N M' Q) : WP E I d 0 0 false pc ls st0 σ N M Q :=
  by
  refine wp_callV (k' := 0) (n' := 0) (k'' := 0) (n'' := 0) hM hG hJ hy hna hσ hr hc hdep hmx hst hs0 rfl rfl hd ?_
  intro v σ' N' M' h
  obtain ⟨hv, h1, h2, h3⟩ := h
  rw [hv, h1, h2]
  exact kk M' h3
theorem wp_cSi {J : MI} {idx d' na : Nat} {As : List Value} {ws' : List Cond} {P : Int32 → (Nat → Nat → Int32) → Prop} {st0 : List Value}
    (hM : MW E J d' 0 0 false As σ N M (qI σ N P)) (hG : GoodIn (iW I) (va_wsS (iO I) idx (iY J) (iW J))) (hJ : iW J = Cond.code (iY J) J.1 J.2.1 J.2.2.1 :: ws')
    (hy : (iY J).cls ≠ "java/lang/invoke/MethodHandle" ∧ (iY J).cls ≠ "java/lang/invoke/VarHandle" ∧ (parseMethodDescriptor (iY J).desc).map (fun d => d.parameters.length) = some na) (hna : As.length = na)
    (hdep : d' + 1 ≤ d) (hmx : J.2.1 ≤ 13) (hst : (st.map fun v => v.category).sum ≤ 8) (hs0 : st0 = As.reverse ++ st)
    (hd : decode I.1 pc = .ok (.invokestatic idx, 3)) (kk : ∀ x M', P x M' → WP E I d 0 0 false (pc + 3) ls (.int x :: st) σ N M' Q) : WP E I d 0 0 false pc ls st0 σ N M Q :=
  by
  refine wp_callS (k' := 0) (n' := 0) (k'' := 0) (n'' := 0) hM hG hJ hy hna hdep hmx hst hs0 rfl rfl hd ?_
  intro v σ' N' M' h
  obtain ⟨x, hv, h1, h2, h3⟩ := h
  rw [hv, h1, h2]
  exact kk x M' h3
end WPC
theorem vil {i : Int32} {n : Nat} (h : (!(decide (i < 0)) && decide (i.toNatClampNeg < n)) = true) : vp_in i n := by
  simp only [Bool.and_eq_true, Bool.not_eq_true', decide_eq_false_iff_not, decide_eq_true_eq] at h
  exact fun q => q.elim h.1 (fun q => Nat.not_le.mpr h.2 q)
theorem aR_pos {x : Int32} (h : ¬ x < 0) : aR x = .ref x.toNatClampNeg := if_neg h
theorem aR_or (x : Int32) : aR x = .null ∨ ∃ r, aR x = .ref r := by
  unfold aR
  split
  · exact Or.inl rfl
  · exact Or.inr ⟨_, rfl⟩
def zb (v : Int32) : Prop := narrow .boolean (.int v) = .int v ∧ fits .boolean (.int v) = true
def zc (v : Int32) : Prop := narrow .char (.int v) = .int v
def FU : Nat := 1000
def σC0 (k : Nat) : KD := match k with
  | 0 => .inr (6, [some (some 1), some (some 4), none, some (some 7), some (some 21), some (some 23), some (some 31)])
  | 1 => .inr (4, [none, none, none, none, none, some (some 2), some (some 3)])
  | 2 => .inl (0, 8, false)
  | 3 => .inl (0, 4, false)
  | 4 => .inr (4, [none, none, none, none, none, some (some 5), some (some 6)])
  | 5 => .inl (0, 8, false)
  | 6 => .inl (0, 4, false)
  | 7 => .inr (0, [none, some (some 8)])
  | 8 => .inl (3, 4, true)
  | 9 => .inr (4, [none, none, none, none, none, some (some 10), some (some 11)])
  | 10 => .inl (0, 8, false)
  | 11 => .inl (0, 4, false)
  | 12 => .inr (4, [none, none, none, none, none, some (some 13), some (some 14)])
  | 13 => .inl (0, 8, false)
  | 14 => .inl (0, 4, false)
  | 15 => .inr (4, [none, none, none, none, none, some (some 16), some (some 17)])
  | 16 => .inl (0, 8, false)
  | 17 => .inl (0, 4, false)
  | 18 => .inr (4, [none, none, none, none, none, some (some 19), some (some 20)])
  | 19 => .inl (0, 8, false)
  | 20 => .inl (0, 4, false)
  | 21 => .inr (5, [none, some (some 22)])
  | 22 => .inl (1, 60, false)
  | 23 => .inr (2, [some (some 24)])
  | 24 => .inr (3, [none, none, none, none, none, some (some 25), some (some 26), some (some 27), some (some 28), some (some 29), some (some 30)])
  | 31 => .inr (1, [some (some 32), some (some 40), none, some (some 43), some (some 44), some (some 45)])
  | 32 => .inr (2, [some (some 33)])
  | 33 => .inr (3, [none, none, none, none, none, some (some 34), some (some 35), some (some 36), some (some 37), some (some 38), some (some 39)])
  | 40 => .inr (4, [none, none, none, none, none, some (some 41), some (some 42)])
  | 41 => .inl (0, 8, false)
  | 42 => .inl (0, 4, false)
  | 43 => .inl (0, 128, false)
  | 44 => .inl (0, 128, false)
  | 45 => .inl (2, 128, false)
  | _ => .inl (0, 8, false)
/-- the cells of a BendOrders object; behind them rows of seven ints -/
def σC (k : Nat) : KD := if 46 ≤ k then .inl (0, 7, false) else σC0 k
abbrev isS (r : Nat) : Prop := r ∈ [1, 4, 9, 12, 15, 18, 40]
abbrev isH (r : Nat) : Prop := r ∈ [24, 33]
abbrev isP (r : Nat) : Prop := r ∈ [23, 32]
theorem isH_of {r : Nat} (h : isP r) : isH (r + 1) := by simp only [List.mem_cons, List.not_mem_nil, or_false] at h ⊢; omega
theorem σ_isS {r : Nat} (h : isS r) : σC r = .inr (4, [none, none, none, none, none, some (some (r + 1)), some (some (r + 2))]) := by
  simp only [List.mem_cons, List.not_mem_nil, or_false] at h
  rcases h with rfl | rfl | rfl | rfl | rfl | rfl | rfl <;> rfl
theorem σ_isS1 {r : Nat} (h : isS r) : σC (r + 1) = .inl (0, 8, false) := by
  simp only [List.mem_cons, List.not_mem_nil, or_false] at h
  rcases h with rfl | rfl | rfl | rfl | rfl | rfl | rfl <;> rfl
theorem σ_isS2 {r : Nat} (h : isS r) : σC (r + 2) = .inl (0, 4, false) := by
  simp only [List.mem_cons, List.not_mem_nil, or_false] at h
  rcases h with rfl | rfl | rfl | rfl | rfl | rfl | rfl <;> rfl
theorem lt_isS {r : Nat} (h : isS r) : r < 46 := by simp only [List.mem_cons, List.not_mem_nil, or_false] at h; omega
theorem lt_isS1 {r : Nat} (h : isS r) : r + 1 < 46 := by simp only [List.mem_cons, List.not_mem_nil, or_false] at h; omega
theorem lt_isS2 {r : Nat} (h : isS r) : r + 2 < 46 := by simp only [List.mem_cons, List.not_mem_nil, or_false] at h; omega
theorem σ_isH {r : Nat} (h : isH r) : σC r = .inr (3, [none, none, none, none, none, some (some (r + 1)), some (some (r + 2)), some (some (r + 3)), some (some (r + 4)), some (some (r + 5)), some (some (r + 6))]) := by
  simp only [List.mem_cons, List.not_mem_nil, or_false] at h
  rcases h with rfl | rfl <;> rfl
theorem lt_isH {r : Nat} (h : isH r) : r < 46 := by simp only [List.mem_cons, List.not_mem_nil, or_false] at h; omega
theorem σ_isP {r : Nat} (h : isP r) : σC r = .inr (2, [some (some (r + 1))]) := by
  simp only [List.mem_cons, List.not_mem_nil, or_false] at h
  rcases h with rfl | rfl <;> rfl
theorem lt_isP {r : Nat} (h : isP r) : r < 46 := by simp only [List.mem_cons, List.not_mem_nil, or_false] at h; omega
theorem σ_isH1 {r : Nat} (h : isH r) : σC (r + 1) = .inl (0, 8, false) := by
  simp only [List.mem_cons, List.not_mem_nil, or_false] at h
  rcases h with rfl | rfl <;> rfl
theorem lt_isH1 {r : Nat} (h : isH r) : r + 1 < 46 := by simp only [List.mem_cons, List.not_mem_nil, or_false] at h; omega
theorem σ_isH2 {r : Nat} (h : isH r) : σC (r + 2) = .inl (0, 8, false) := by
  simp only [List.mem_cons, List.not_mem_nil, or_false] at h
  rcases h with rfl | rfl <;> rfl
theorem lt_isH2 {r : Nat} (h : isH r) : r + 2 < 46 := by simp only [List.mem_cons, List.not_mem_nil, or_false] at h; omega
theorem σ_isH3 {r : Nat} (h : isH r) : σC (r + 3) = .inl (0, 8, false) := by
  simp only [List.mem_cons, List.not_mem_nil, or_false] at h
  rcases h with rfl | rfl <;> rfl
theorem lt_isH3 {r : Nat} (h : isH r) : r + 3 < 46 := by simp only [List.mem_cons, List.not_mem_nil, or_false] at h; omega
theorem σ_isH4 {r : Nat} (h : isH r) : σC (r + 4) = .inl (0, 8, false) := by
  simp only [List.mem_cons, List.not_mem_nil, or_false] at h
  rcases h with rfl | rfl <;> rfl
theorem lt_isH4 {r : Nat} (h : isH r) : r + 4 < 46 := by simp only [List.mem_cons, List.not_mem_nil, or_false] at h; omega
theorem σ_isH5 {r : Nat} (h : isH r) : σC (r + 5) = .inl (0, 8, false) := by
  simp only [List.mem_cons, List.not_mem_nil, or_false] at h
  rcases h with rfl | rfl <;> rfl
theorem lt_isH5 {r : Nat} (h : isH r) : r + 5 < 46 := by simp only [List.mem_cons, List.not_mem_nil, or_false] at h; omega
theorem σ_isH6 {r : Nat} (h : isH r) : σC (r + 6) = .inl (0, 8, false) := by
  simp only [List.mem_cons, List.not_mem_nil, or_false] at h
  rcases h with rfl | rfl <;> rfl
theorem lt_isH6 {r : Nat} (h : isH r) : r + 6 < 46 := by simp only [List.mem_cons, List.not_mem_nil, or_false] at h; omega

