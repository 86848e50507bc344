/-! new cells: worlds that grow (constructors alone) -/
def dF (x : Option (Option Nat)) : Value := match x with
  | none => .int 0
  | some _ => .null
section WPN
variable {E : EN} {I : MI} {d k n : Nat} {pc : Nat} {ls : List (Nat × Value)} {st : List Value} {σ : Nat → KD} {N : Nat} {M : Nat → Nat → Int32} {Q : PST}
theorem dF_idx (E : EN) (fk : List (Option (Option Nat))) (h : ∀ x ∈ fk, x = none ∨ x = some none) : fk.mapIdx (fun k x => cV E (aF (fun _ => 0) k x)) = fk.map dF := by
  apply List.ext_getElem?
  intro i
  rw [List.getElem?_mapIdx, List.getElem?_map]
  cases hx : fk[i]? with
  | none => rfl
  | some x =>
    rcases h x (List.mem_of_getElem? hx) with rfl | rfl <;> rfl
theorem wp_new {idx ci Nf k' n' : Nat} {C : String} {T : u_T} {fk : List (Option (Option Nat))} (ty : Nat → FieldType) (hty : ∀ k, k < Nf → parseFieldDescriptor (T k).2.2.1 = some (ty k)) (hc : vwCl[ci]? = some (C, T, Nf)) (hin : ∀ w ∈ u_ws C T Nf, w ∈ iW I) (hcl : Cond.classLink (iO I) idx C ∈ iW I) (hins : Cond.instantiable C Nf ∈ iW I) (hini : Cond.initialized C ∈ iW I)
    (hfs : ∀ j, j < Nf → defaultValue (ty j) = vp_V (fk.map dF) j) (hf0 : ∀ x ∈ fk, x = none ∨ x = some none) (hN1 : N < 1000) (hk : k = 1 + k') (hn : n = Nf + n') (hd : decode I.1 pc = .ok (.new idx, 3))
    (h : WP E I d k' n' true (pc + 3) ls (.ref N :: st) (us σ N (.inr (ci, fk))) (N + 1) (um M N (fun _ => 0)) Q) : WP E I d k n true pc ls st σ N M Q := by
  subst hk; subst hn
  intro p e s m args below meth c H locs cells slots mc ms A lsr a b c1 c2
  obtain ⟨hK, hP, hD, hS, hA, hlv, hSC, hN, hsz⟩ := b
  have hz := hsz rfl
  have hKn := hK.1 ci _ hc
  have haN : H.size = aE E N := by rw [aE_lt hN1]; exact hz
  refine W.newcK a.1 a.2.1 a.2.2.2.2.1 (a.2.2.2.2.2.1 _ hcl) (a.2.2.2.2.2.1 _ hins) (a.2.2.2.2.2.1 _ hini) rfl hd (by show cells + 1 ≤ mc; omega) (by show slots + Nf ≤ ms; omega) hKn.2.1 haN fun H1 kC hkC e1 z1 o1 => ?_
  have hkp : ∀ (j : Nat) (x : Nat × va_E), (cW E σ N M)[j]? = some x → H1[x.1]? = H[x.1]? := fun j x hx => o1 x.1 (by rw [← haN]; exact (hP j x hx).lt)
  have hP1 := (hP.kept hkp).app (w2 := [(aE E N, cK E (.inr (ci, fk)) (fun _ => 0))]) (fun j x hx => by
    have hz : j < 1 := (List.getElem?_eq_some_iff.mp hx).1
    rw [show j = 0 by omega] at hx
    cases hx
    refine ⟨_, hc, (u_born ty a.2.2.2.2.2.1 hin hKn hkC e1 hty).to (fun j hj => ?_)⟩
    show defaultValue (ty j) = vp_V (fk.mapIdx (fun k x => cV E (aF (fun _ => 0) k x))) j
    rw [dF_idx E fk hf0]
    exact hfs j hj)
  have hD1 := hD.push (e := cK E (.inr (ci, fk)) (fun _ => 0)) hP haN.symm (hA _ (by rw [← haN]; exact hS.1))
  rw [cW_push] at hP1 hD1
  exact h p e s m args below meth c H1 locs (cells + 1) (slots + Nf) mc ms A lsr a ⟨hK, hP1, hD1, ⟨by rw [z1, ← haN]; exact Nat.le_succ_of_le hS.1, fun x h1 h2 => (o1 x (by rw [← haN]; exact Nat.lt_of_lt_of_le h1 hS.1)).trans (hS.2.1 x h1 h2), hS.2.2⟩, hA, hlv, hSC, by omega, fun _ => by rw [z1, aE_lt hN1]; omega⟩ (by omega) (by omega)
theorem wp_newI {z : Int32} {N' k' n' : Nat} (hw : Cond.arrayClass .int ∈ iW I) (h0 : ¬ z < 0) (hz' : z.toNatClampNeg = N') (hb : N' ≤ 1000) (hN1 : N < 1000) (hk : k = 1 + k') (hn : n = N' + n') (hd : decode I.1 pc = .ok (.newarray .int, 2))
    (h : WP E I d k' n' true (pc + 2) ls (.ref N :: st) (us σ N (.inl (0, N', false))) (N + 1) (um M N (fun _ => 0)) Q) : WP E I d k n true pc ls (.int z :: st) σ N M Q := by
  subst hk; subst hn
  intro p e s m args below meth c H locs cells slots mc ms A lsr a b c1 c2
  obtain ⟨hK, hP, hD, hS, hA, hlv, hSC, hN, hsz⟩ := b
  have hz := hsz rfl
  have haN : H.size = aE E N := by rw [aE_lt hN1]; exact hz
  refine va_newaK (atype := .int) a.1 a.2.1 (a.2.2.2.2.2.1 _ hw) rfl hd rfl h0 hz' (by show N' * _ ≤ _; simp only [newarray.typeOf, componentBytes]; omega) (by show cells + 1 ≤ mc; omega) (by show slots + N' ≤ ms; omega) haN fun H1 cA e1 z1 o1 hAr hNm => ?_
  have hcA : cA = eC E 0 := by
    have h9 := (hK.2 0 _ rfl).2
    exact Option.some.inj (hNm.symm.trans h9)
  subst hcA
  have hkp : ∀ (j : Nat) (x : Nat × va_E), (cW E σ N M)[j]? = some x → H1[x.1]? = H[x.1]? := fun j x hx => o1 x.1 (by rw [← haN]; exact (hP j x hx).lt)
  have hP1 := (hP.kept hkp).app (w2 := [(aE E N, cK E (.inl (0, N', false)) (fun _ => 0))]) (fun j x hx => by
    have hz : j < 1 := (List.getElem?_eq_some_iff.mp hx).1
    rw [show j = 0 by omega] at hx
    cases hx
    show H1[aE E N]? = some (vp_cell _ _)
    exact e1)
  have hD1 := hD.push (e := cK E (.inl (0, N', false)) (fun _ => 0)) hP haN.symm (hA _ (by rw [← haN]; exact hS.1))
  rw [cW_push] at hP1 hD1
  exact h p e s m args below meth c H1 locs (cells + 1) (slots + N') mc ms A lsr a ⟨hK, hP1, hD1, ⟨by rw [z1, ← haN]; exact Nat.le_succ_of_le hS.1, fun x h1 h2 => (o1 x (by rw [← haN]; exact Nat.lt_of_lt_of_le h1 hS.1)).trans (hS.2.1 x h1 h2), hS.2.2⟩, hA, hlv, hSC, by omega, fun _ => by rw [z1, aE_lt hN1]; omega⟩ (by omega) (by omega)
theorem wp_newC {z : Int32} {N' k' n' : Nat} (hw : Cond.arrayClass .char ∈ iW I) (h0 : ¬ z < 0) (hz' : z.toNatClampNeg = N') (hb : N' ≤ 1000) (hN1 : N < 1000) (hk : k = 1 + k') (hn : n = N' + n') (hd : decode I.1 pc = .ok (.newarray .char, 2))
    (h : WP E I d k' n' true (pc + 2) ls (.ref N :: st) (us σ N (.inl (1, N', false))) (N + 1) (um M N (fun _ => 0)) Q) : WP E I d k n true pc ls (.int z :: st) σ N M Q := by
  subst hk; subst hn
  intro p e s m args below meth c H locs cells slots mc ms A lsr a b c1 c2
  obtain ⟨hK, hP, hD, hS, hA, hlv, hSC, hN, hsz⟩ := b
  have hz := hsz rfl
  have haN : H.size = aE E N := by rw [aE_lt hN1]; exact hz
  refine va_newaK (atype := .char) a.1 a.2.1 (a.2.2.2.2.2.1 _ hw) rfl hd rfl h0 hz' (by show N' * _ ≤ _; simp only [newarray.typeOf, componentBytes]; omega) (by show cells + 1 ≤ mc; omega) (by show slots + N' ≤ ms; omega) haN fun H1 cA e1 z1 o1 hAr hNm => ?_
  have hcA : cA = eC E 1 := by
    have h9 := (hK.2 1 _ rfl).2
    exact Option.some.inj (hNm.symm.trans h9)
  subst hcA
  have hkp : ∀ (j : Nat) (x : Nat × va_E), (cW E σ N M)[j]? = some x → H1[x.1]? = H[x.1]? := fun j x hx => o1 x.1 (by rw [← haN]; exact (hP j x hx).lt)
  have hP1 := (hP.kept hkp).app (w2 := [(aE E N, cK E (.inl (1, N', false)) (fun _ => 0))]) (fun j x hx => by
    have hz : j < 1 := (List.getElem?_eq_some_iff.mp hx).1
    rw [show j = 0 by omega] at hx
    cases hx
    show H1[aE E N]? = some (vp_cell _ _)
    exact e1)
  have hD1 := hD.push (e := cK E (.inl (1, N', false)) (fun _ => 0)) hP haN.symm (hA _ (by rw [← haN]; exact hS.1))
  rw [cW_push] at hP1 hD1
  exact h p e s m args below meth c H1 locs (cells + 1) (slots + N') mc ms A lsr a ⟨hK, hP1, hD1, ⟨by rw [z1, ← haN]; exact Nat.le_succ_of_le hS.1, fun x h1 h2 => (o1 x (by rw [← haN]; exact Nat.lt_of_lt_of_le h1 hS.1)).trans (hS.2.1 x h1 h2), hS.2.2⟩, hA, hlv, hSC, by omega, fun _ => by rw [z1, aE_lt hN1]; omega⟩ (by omega) (by omega)
theorem wp_newZ {z : Int32} {N' k' n' : Nat} (hw : Cond.arrayClass .boolean ∈ iW I) (h0 : ¬ z < 0) (hz' : z.toNatClampNeg = N') (hb : N' ≤ 1000) (hN1 : N < 1000) (hk : k = 1 + k') (hn : n = N' + n') (hd : decode I.1 pc = .ok (.newarray .boolean, 2))
    (h : WP E I d k' n' true (pc + 2) ls (.ref N :: st) (us σ N (.inl (2, N', false))) (N + 1) (um M N (fun _ => 0)) Q) : WP E I d k n true pc ls (.int z :: st) σ N M Q := by
  subst hk; subst hn
  intro p e s m args below meth c H locs cells slots mc ms A lsr a b c1 c2
  obtain ⟨hK, hP, hD, hS, hA, hlv, hSC, hN, hsz⟩ := b
  have hz := hsz rfl
  have haN : H.size = aE E N := by rw [aE_lt hN1]; exact hz
  refine va_newaK (atype := .boolean) a.1 a.2.1 (a.2.2.2.2.2.1 _ hw) rfl hd rfl h0 hz' (by show N' * _ ≤ _; simp only [newarray.typeOf, componentBytes]; omega) (by show cells + 1 ≤ mc; omega) (by show slots + N' ≤ ms; omega) haN fun H1 cA e1 z1 o1 hAr hNm => ?_
  have hcA : cA = eC E 2 := by
    have h9 := (hK.2 2 _ rfl).2
    exact Option.some.inj (hNm.symm.trans h9)
  subst hcA
  have hkp : ∀ (j : Nat) (x : Nat × va_E), (cW E σ N M)[j]? = some x → H1[x.1]? = H[x.1]? := fun j x hx => o1 x.1 (by rw [← haN]; exact (hP j x hx).lt)
  have hP1 := (hP.kept hkp).app (w2 := [(aE E N, cK E (.inl (2, N', false)) (fun _ => 0))]) (fun j x hx => by
    have hz : j < 1 := (List.getElem?_eq_some_iff.mp hx).1
    rw [show j = 0 by omega] at hx
    cases hx
    show H1[aE E N]? = some (vp_cell _ _)
    exact e1)
  have hD1 := hD.push (e := cK E (.inl (2, N', false)) (fun _ => 0)) hP haN.symm (hA _ (by rw [← haN]; exact hS.1))
  rw [cW_push] at hP1 hD1
  exact h p e s m args below meth c H1 locs (cells + 1) (slots + N') mc ms A lsr a ⟨hK, hP1, hD1, ⟨by rw [z1, ← haN]; exact Nat.le_succ_of_le hS.1, fun x h1 h2 => (o1 x (by rw [← haN]; exact Nat.lt_of_lt_of_le h1 hS.1)).trans (hS.2.1 x h1 h2), hS.2.2⟩, hA, hlv, hSC, by omega, fun _ => by rw [z1, aE_lt hN1]; omega⟩ (by omega) (by omega)
theorem wp_newQ {idx : Nat} {z : Int32} {N' k' n' : Nat} (hw : Cond.classLink (iO I) idx RX4 ∈ iW I) (h0 : ¬ z < 0) (hz' : z.toNatClampNeg = N') (hb : N' ≤ 1000) (hN1 : N < 1000) (hk : k = 1 + k') (hn : n = N' + n') (hd : decode I.1 pc = .ok (.anewarray idx, 3))
    (h : WP E I d k' n' true (pc + 3) ls (.ref N :: st) (us σ N (.inl (3, N', true))) (N + 1) (um M N (fun _ => -1)) Q) : WP E I d k n true pc ls (.int z :: st) σ N M Q := by
  subst hk; subst hn; subst hz'
  intro p e s m args below meth c H locs cells slots mc ms A lsr a b c1 c2
  obtain ⟨hK, hP, hD, hS, hA, hlv, hSC, hN, hsz⟩ := b
  have hz := hsz rfl
  have haN : H.size = aE E N := by rw [aE_lt hN1]; exact hz
  refine W.anew a.1 a.2.1 a.2.2.2.2.1 (a.2.2.2.2.2.1 _ hw) (va_AO.use hSC.2.1) rfl hd rfl h0 (by omega) (by show cells + 1 ≤ mc; omega) (by show slots + _ ≤ ms; omega) fun cA kA comp f1 f2 f3 f4 => ?_
  have hcA : cA = eC E 3 := by
    obtain ⟨kA', comp', g1, g2, g3, g4⟩ := (hK.2 3 _ rfl).2
    exact Option.some.inj (f1.symm.trans g4)
  subst hcA
  generalize hH1 : H.push ({ cls := eC E 3, slots := Array.replicate z.toNatClampNeg .null, vm := .none } : Cell) = H1
  have z1 : H1.size = H.size + 1 := by rw [← hH1, Array.size_push]
  have e1 : H1[H.size]? = some (arrV (eC E 3) z.toNatClampNeg (fun _ => .null)) := by rw [← hH1, Array.getElem?_push_size, ← arrV_new]
  have o1 : ∀ q : Nat, q < H.size → H1[q]? = H[q]? := fun q hq => by rw [← hH1, Array.getElem?_push, if_neg (Nat.ne_of_lt hq)]
  have hkp : ∀ (j : Nat) (x : Nat × va_E), (cW E σ N M)[j]? = some x → H1[x.1]? = H[x.1]? := fun j x hx => o1 x.1 (hP j x hx).lt
  have ecr : (fun i : Nat => cR E ((fun _ => -1) i)) = fun _ => none := by
    funext i
    show (if (-1 : Int32) < 0 then none else _) = none
    rw [if_pos (by decide)]
  have hP1 := (hP.kept hkp).app (w2 := [(aE E N, cK E (.inl (3, z.toNatClampNeg, true)) (fun _ => -1))]) (fun j x hx => by
    have hz : j < 1 := (List.getElem?_eq_some_iff.mp hx).1
    rw [show j = 0 by omega] at hx
    cases hx
    show H1[aE E N]? = some (vp_cell (eC E 3) (z.toNatClampNeg, .inr (.inr (.inr (.inr (fun i => cR E ((fun _ => -1) i)))))))
    rw [← haN, e1, ecr, vp_cell_q]
    rfl)
  have hD1 := hD.push (e := cK E (.inl (3, z.toNatClampNeg, true)) (fun _ => -1)) hP haN.symm (hA _ (by rw [← haN]; exact hS.1))
  rw [cW_push] at hP1 hD1
  have h9 := h p e s m args below meth c H1 locs (cells + 1) (slots + z.toNatClampNeg) mc ms A lsr a ⟨hK, hP1, hD1, ⟨by rw [z1]; exact Nat.le_succ_of_le hS.1, fun x h1 h2 => (o1 x (Nat.lt_of_lt_of_le h1 hS.1)).trans (hS.2.1 x h1 h2), hS.2.2⟩, hA, hlv, hSC, by omega, fun _ => by rw [z1]; omega⟩ (by omega) (by omega)
  have e9 : cV E (.ref N) = .ref H.size := by rw [haN]; rfl
  rw [List.map_cons, e9] at h9
  exact h9
/-- System.arraycopy from the static array of the first settings into an int array of the world -/
theorem wp_copyT {idx r1 n1 : Nat} {sp dp z : Int32} (hlk : Cond.methodLink (iO I) idx arraycopyName ∈ iW I) (hna : Cond.native arraycopyName ∈ iW I) (hs : Cond.static arraycopyName ∈ iW I) (hi : Cond.initialized "java/lang/System" ∈ iW I)
    (hσ1 : σ r1 = .inl (0, n1, false)) (hr1 : r1 < N) (h1 : ¬ sp < 0) (h2 : ¬ dp < 0) (h3 : ¬ z < 0) (h4 : sp.toNatClampNeg + z.toNatClampNeg ≤ 4) (h5 : dp.toNatClampNeg + z.toNatClampNeg ≤ n1) (hd1 : 1 ≤ d) (hst : (st.map fun v => v.category).sum ≤ 8)
    (hd : decode I.1 pc = .ok (.invokestatic idx, 3)) (h : ∀ M1, M1 = um M r1 (va_cpy (sv 0) (M r1) sp.toNatClampNeg dp.toNatClampNeg z.toNatClampNeg) → WP E I d k n true (pc + 3) ls st σ N M1 Q) : WP E I d k n true pc ls (.int z :: .int dp :: .ref r1 :: .int sp :: .ref 1000 :: st) σ N M Q := by
  intro p e s m args below meth c H locs cells slots mc ms A lsr a b c1 c2
  obtain ⟨hK, hP, hD, hS, hA, hlv, hSC, hN, hsz⟩ := b
  have he1 : (cW E σ N M)[r1]? = some (aE E r1, .inl (eC E 0, n1, .inl (M r1))) := by rw [cW_get hr1, hσ1]; rfl
  have nn : ∀ z : Int32, ¬ z < 0 → z.toInt = (z.toNatClampNeg : Int) := by
    intro z hz
    have hz0 : (0 : Int) ≤ z.toInt := by
      have := Int32.not_lt.mp hz
      simpa using Int32.le_iff_toInt_le.mp this
    show z.toInt = ((z.toInt.toNat : Nat) : Int)
    omega
  intro T hT X
  obtain ⟨scr, hs1, hs2, hs3, hs4, -, hs5, hs7⟩ := (hSC.1 0 (by decide)).2
  have hc0 : H[eS E 0]? = some scr := by rw [hS.2.1 (eS E 0) (Array.getElem?_eq_some_iff.mp hs1).1 hs7]; exact hs1
  have hc1 : H[aE E r1]? = some (vp_cell (eC E 0) (n1, .inl (M r1))) := hP r1 _ he1
  obtain ⟨hs6, k0, hk0, cm0, hkk0⟩ := hs2
  obtain ⟨-, k1, hk1, cm1, hkk1⟩ := (hK.2 0 _ rfl).1 n1 (fun j => .int (M r1 j))
  obtain ⟨vm', X', step⟩ := X.arraycopy a.1 a.2.2.2.2.1 (a.2.2.2.2.2.1 _ hlk) (a.2.2.2.2.2.1 _ hna) (a.2.2.2.2.2.1 _ hs) (a.2.2.2.2.2.1 _ hi) (src := eS E 0) (dst := aE E r1) (cs := scr) (cd := vp_cell (eC E 0) (n1, .inl (M r1))) (srcPos := sp) (destPos := dp) (n := z) (by rw [hT]; exact hc0) (by rw [hT]; exact hc1)
    hs6 (fun _ h => by cases h) hs3 (fun h => by cases h) hk0 hk1 hkk0 hkk1 (by simp [refKind]) h1 h2 h3
    (by rw [nn sp h1, nn z h3]; omega)
    (by rw [nn dp h2, nn z h3]; show ¬ _ > ((arrV (eC E 0) n1 (fun j => .int (M r1 j))).slots.size : Int); rw [arrV_size]; omega)
    (fun vm₁ _ i hi => by
      have e : scr.slots.getD (sp.toNatClampNeg + i) .null = .int (sv 0 (sp.toNatClampNeg + i)) := by
        rw [Array.getD_eq_getD_getElem?, hs5 _ (by omega)]
        rfl
      refine ⟨?_, ?_⟩
      · rw [e]
        rfl
      · rw [e]
        exact trivial)
    (g := F0 m pc lsr (.int z :: .int dp :: .ref (aE E r1) :: .int sp :: .ref (eS E 0) :: st.map (cV E))) rfl (by rw [hlv.1]; exact a.2.2.1.symm) (rest := st.map (cV E)) rfl (by rw [a.2.1]; exact hd) hd1 (by show 2 * 0 + _ + (nativeFrameWords "java/lang/System" "arraycopy" 5 + 11) ≤ d * 32; rw [cat_map, show nativeFrameWords "java/lang/System" "arraycopy" 5 = 7 by decide]; omega)
  have e1 : copied scr (vp_cell (eC E 0) (n1, .inl (M r1))) sp dp z = vp_cell (eC E 0) (n1, .inl (va_cpy (sv 0) (M r1) sp.toNatClampNeg dp.toNatClampNeg z.toNatClampNeg)) := va_copiedX (fun z => .int z) scr (eC E 0) (sv 0) (M r1) hs5 h4
  rw [e1] at X' step
  have hl : aE E r1 < H.size := (Array.getElem?_eq_some_iff.mp hc1).1
  generalize hv : vp_cell (eC E 0) (n1, .inl (va_cpy (sv 0) (M r1) sp.toNatClampNeg dp.toNatClampNeg z.toNatClampNeg)) = nv at X' step
  have hheap : ((T.setVm vm').setCell (aE E r1) nv).heap = H.setIfInBounds (aE E r1) nv := by rw [← hT]; rfl
  have oq : ∀ q : Nat, q ≠ aE E r1 → (H.setIfInBounds (aE E r1) nv)[q]? = H[q]? := fun q hq => by simp [Array.getElem?_setIfInBounds, Ne.symm hq]
  have hP1 := hP.set hD he1 (e := .inl (eC E 0, n1, .inl (va_cpy (sv 0) (M r1) sp.toNatClampNeg dp.toNatClampNeg z.toNatClampNeg))) (show (H.setIfInBounds (aE E r1) nv)[aE E r1]? = some (vp_cell _ _) by rw [← hv]; simp [Array.getElem?_setIfInBounds, hl]) oq
  have hD1 := hD.set (e := .inl (eC E 0, n1, .inl (va_cpy (sv 0) (M r1) sp.toNatClampNeg dp.toNatClampNeg z.toNatClampNeg))) he1
  have ew : (cW E σ N M).set r1 (aE E r1, .inl (eC E 0, n1, .inl (va_cpy (sv 0) (M r1) sp.toNatClampNeg dp.toNatClampNeg z.toNatClampNeg))) = cW E σ N (um M r1 (va_cpy (sv 0) (M r1) sp.toNatClampNeg dp.toNatClampNeg z.toNatClampNeg)) := cW_set' _ (by rw [hσ1]; rfl)
  rw [ew] at hP1 hD1
  obtain ⟨t, a1, b1⟩ := h _ rfl p e s m args below meth c _ _ cells slots mc ms A lsr a ⟨hK, hP1, hD1, ⟨by simp; exact hS.1, fun q g1 g2 => by
      rw [oq q (fun e => g2 (by rw [e]; exact hD.2 r1 _ he1))]
      exact hS.2.1 q g1 g2, fun q hq => by
      rcases List.mem_append.mp hq with h | h
      · exact hS.2.2 q h
      · obtain ⟨z, -, hz⟩ := List.mem_map.mp h
        rw [← hz]
        exact hD.2 r1 _ he1⟩, hA, hlv, hSC, hN, um_sz (by simp) hsz⟩ c1 c2 _ hheap X'
  exact ⟨t, step t a1, b1⟩
end WPN
