/-! calls from a larger world: the class's 46 cells are cut out, the rest stays (the frame rule in the words of 03.wp) -/
theorem cW_mem {E : EN} {σ : Nat → KD} {N : Nat} {M : Mem} {k q : Nat} {e : va_E} (h : (cW E σ N M)[k]? = some (q, e)) : k < N ∧ q = aE E k := by
  have hk : k < N := by
    have := (List.getElem?_eq_some_iff.mp h).1
    rwa [cW_len] at this
  rw [cW_get hk] at h
  exact ⟨hk, (congrArg Prod.fst (Option.some.inj h)).symm⟩
theorem cW_D {E : EN} {A : Nat → Prop} {σ : Nat → KD} {N : Nat} {M : Mem} (hN : N ≤ 1000) (hA : ∀ q, eB E ≤ q → A q) : va_D A (cW E σ N M) := by
  refine ⟨fun i j p q hi hj e => ?_, fun k q hk => ?_⟩
  · obtain ⟨a1, a2⟩ := cW_mem (q := p.1) (e := p.2) hi
    obtain ⟨b1, b2⟩ := cW_mem (q := q.1) (e := q.2) hj
    rw [aE_lt (by omega)] at a2 b2
    omega
  · obtain ⟨a1, a2⟩ := cW_mem (q := q.1) (e := q.2) hk
    rw [aE_lt (by omega)] at a2
    exact hA _ (by omega)
def frm (M M2 : Mem) : Mem := fun a => if a < 46 then M2 a else M a
def fr (M : Mem) (P : Int32 → Mem → Prop) : Int32 → Mem → Prop := fun v M2 => P v (frm M M2)
theorem frm_lt {M M2 : Mem} {a : Nat} (h : a < 46) : frm M M2 a = M2 a := if_pos h
theorem frm_ge {M M2 : Mem} {a : Nat} (h : 46 ≤ a) : frm M M2 a = M a := if_neg (by omega)
theorem cW_46 {E : EN} {N : Nat} {M : Mem} (h : 46 ≤ N) {k : Nat} {q : Nat × va_E} (hk : (cW E σC 46 M)[k]? = some q) : (cW E σC N M)[k]? = some q := by
  obtain ⟨k1, k2⟩ := cW_mem (q := q.1) (e := q.2) hk
  rw [cW_get k1] at hk
  rw [cW_get (by omega)]
  exact hk
theorem vaA_46 {E : EN} {N sz q : Nat} {M : Mem} (h : 46 ≤ N) (hq : va_A (cW E σC 46 M) sz q) : va_A (cW E σC N M) sz q :=
  hq.elim (fun ⟨k, e, hk⟩ => Or.inl ⟨k, e, cW_46 h hk⟩) Or.inr
theorem mw_frame {E : EN} {J : MI} {d' N : Nat} {av : List Value} {M : Mem} {P : Int32 → Mem → Prop} (h46 : 46 ≤ N) (hM : MW E J d' 0 0 false av σC 46 M (qI σC 46 (fr M P))) : MW E J d' 0 0 true av σC N M (qI σC N P) := by
  intro sz hsz
  have h := hM sz (fun z => by cases z)
  unfold Met at h ⊢
  refine MetFree.mono h ?_ (fun _ _ _ _ _ _ => trivial) ?_
  · rintro a s ⟨ha, p0, p1, p2, p3, p4, p5⟩
    exact ⟨ha, p0, fun k q hk => p1 k q (cW_46 h46 hk), p2, ⟨fun i j p q hi hj => p3.1 i j p q (cW_46 h46 hi) (cW_46 h46 hj), fun _ _ _ => trivial⟩, SC.narrow (fun q hq => vaA_46 h46 hq) p4, by decide⟩
  · rintro a s o t ⟨ha, p0, p1, p2, p3, p4, p5⟩ ⟨⟨⟨r, σ', N', M', ho, ⟨x, hr, hσ', hN', hx⟩, q1, q2, q3, q4, q5⟩, f1, f2⟩, L, hL, hLq⟩
    subst hσ'
    subst hN'
    have hs1 : s.heap.size ≤ t.heap.size := hL.2.2.2.1
    have hs2 : t.heap.size ≤ s.heap.size + 0 := hL.2.2.2.2.1
    refine ⟨⟨⟨r, σC, N, frm M M', ho, ⟨x, hr, rfl, rfl, hx⟩, fun k q hk => ?_, q2, ⟨fun i j p q hi hj e => ?_, fun k q hk => ?_⟩, p5, fun hal => ?_⟩, f1, fun q z1 z2 => f2 q z1 (fun z => z2 (vaA_46 h46 z))⟩, L, hL, fun q hq => vaA_46 h46 (hLq q hq)⟩
    · obtain ⟨k1, k2⟩ := cW_mem (q := q.1) (e := q.2) hk
      rw [cW_get k1] at hk
      by_cases c : k < 46
      · refine q1 k q ?_
        rw [cW_get c]
        rw [frm_lt c] at hk
        exact hk
      · rw [frm_ge (by omega)] at hk
        have hk' : (cW E σC N M)[k]? = some q := by rw [cW_get k1]; exact hk
        have hlt := (p1 k q hk').lt
        refine (p1 k q hk').kept (f2 q.1 hlt (fun z => ?_))
        rcases z with ⟨j, e, hj⟩ | z
        · obtain ⟨j1, j2⟩ := cW_mem hj
          rw [aE_lt (by omega)] at j2 k2
          omega
        · omega
    · obtain ⟨a1, a2⟩ := cW_mem (q := p.1) (e := p.2) hi
      obtain ⟨b1, b2⟩ := cW_mem (q := q.1) (e := q.2) hj
      rw [aE_lt (by omega)] at a2 b2
      omega
    · obtain ⟨a1, a2⟩ := cW_mem (q := q.1) (e := q.2) hk
      refine Or.inl ⟨k, cK E (σC k) (M k), ?_⟩
      rw [cW_get a1, a2]
    · have := hsz rfl
      omega
section WPF
variable {E : EN} {I : MI} {d k n : Nat} {al : Bool} {pc : Nat} {ls : List (Nat × Value)} {st : List Value} {σ : Nat → KD} {N : Nat} {M : Nat → Nat → Int32} {Q : PST}
/-- a call of the class's object, from the law's own methods -/
theorem wp_cF {J : MI} {idx d' na : Nat} {As : List Value} {ws' : List Cond} {P : Int32 → Mem → Prop} {st0 : List Value} (hN : 46 ≤ N)
    (hM : MW E J d' 0 0 false (.ref 0 :: As) σC 46 M (qI σC 46 (fr M P))) (hG : GoodIn (iW I) (wsV (iO I) idx (iO J) (iY J) (iW J))) (hJ : iW J = Cond.code (iY J) J.1 J.2.1 J.2.2.1 :: ws')
    (hy : (iY J).cls = iO J ∧ (iY J).cls ≠ "java/lang/invoke/MethodHandle" ∧ (iY J).cls ≠ "java/lang/invoke/VarHandle" ∧ (parseMethodDescriptor (iY J).desc).map (fun d => d.parameters.length) = some na) (hna : As.length = na)
    (hc : vwCl[6]? = some (iO J, TX6, 7)) (hdep : d' + 1 ≤ d) (hmx : J.2.1 ≤ 13) (hst : (st.map fun v => v.category).sum ≤ 8) (hs0 : st0 = As.reverse ++ .ref 0 :: st)
    (hd : decode I.1 pc = .ok (.invokevirtual idx, 3)) (kk : ∀ x M', P x M' → WP E I d k n true (pc + 3) ls (.int x :: st) σC N M' Q) : WP E I d k n true pc ls st0 σC N M Q := by
  refine wp_callV (k' := 0) (n' := 0) (k'' := k) (n'' := n) (r := 0) (ci := 6) (mw_frame hN hM) hG hJ hy hna rfl (by omega) hc hdep hmx hst hs0 (Nat.zero_add k).symm (Nat.zero_add n).symm hd ?_
  rintro v σ' N' M' ⟨x, hv, h1, h2, h3⟩
  rw [hv, h1, h2]
  exact kk x M' h3
/-- a call of one of the law's own methods that makes nothing -/
theorem wp_cSL {J : MI} {idx d' na : Nat} {As : List Value} {ws' : List Cond} {P : Int32 → Mem → Prop} {st0 : List Value}
    (hM : MW E J d' 0 0 true As σ N M (qI σ N P)) (hG : GoodIn (iW I) (va_wsS (iO I) idx (iY J) (iW J))) (hJ : iW J = Cond.code (iY J) J.1 J.2.1 J.2.2.1 :: ws')
    (hy : (iY J).cls ≠ "java/lang/invoke/MethodHandle" ∧ (iY J).cls ≠ "java/lang/invoke/VarHandle" ∧ (parseMethodDescriptor (iY J).desc).map (fun d => d.parameters.length) = some na) (hna : As.length = na)
    (hdep : d' + 1 ≤ d) (hmx : J.2.1 ≤ 13) (hst : (st.map fun v => v.category).sum ≤ 8) (hs0 : st0 = As.reverse ++ st)
    (hd : decode I.1 pc = .ok (.invokestatic idx, 3)) (kk : ∀ x M', P x M' → WP E I d k n true (pc + 3) ls (.int x :: st) σ N M' Q) : WP E I d k n true pc ls st0 σ N M Q := by
  refine wp_callS (k' := 0) (n' := 0) (k'' := k) (n'' := n) hM hG hJ hy hna hdep hmx hst hs0 (Nat.zero_add k).symm (Nat.zero_add n).symm hd ?_
  rintro v σ' N' M' ⟨x, hv, h1, h2, h3⟩
  rw [hv, h1, h2]
  exact kk x M' h3
theorem wp_ldc {j : Nat} {v : Int32} (hw : Jvm.Cond.constant (iO I) j v ∈ iW I) (hd : decode I.1 pc = .ok (.ldc j, 2)) (h : WP E I d k n al (pc + 2) ls (.int v :: st) σ N M Q) : WP E I d k n al pc ls st σ N M Q := fun p e s m args below meth c H locs cells slots mc ms A lsr a b c1 c2 => lv_ldc a.1 a.2.1 a.2.2.2.2.1 (a.2.2.2.2.2.1 _ hw) hd (h p e s m args below meth c H locs cells slots mc ms A lsr a b c1 c2)
theorem wp_aload {i : Nat} {x : Nat} (q : Nat) (hd : decode I.1 pc = .ok (.aload i, 2)) (hl : ls[q]? = some (i, .ref x)) (h : WP E I d k n al (pc + 2) ls (.ref x :: st) σ N M Q) : WP E I d k n al pc ls st σ N M Q := fun p e s m args below meth c H locs cells slots mc ms A lsr a b c1 c2 => lv_aload a.1 a.2.1 hd (lc_at b.2.2.2.2.2.1 hl) (h p e s m args below meth c H locs cells slots mc ms A lsr a b c1 c2)
theorem wp_astore {i : Nat} {x : Nat} {ls' : List (Nat × Value)} (ks : List Nat) (hd : decode I.1 pc = .ok (.astore i, 2)) (hl : lv_pick (lst ls i (.ref x)) ks = ls') (hn : i < I.2.1) (h : WP E I d k n al (pc + 2) ls' st σ N M Q) : WP E I d k n al pc ls (.ref x :: st) σ N M Q := fun p e s m args below meth c H locs cells slots mc ms A lsr a b c1 c2 => lv_astore a.1 a.2.1 hd b.2.2.2.2.2.1 hn rfl (fun ls2 hl2 => h p e s m args below meth c H locs cells slots mc ms A ls2 a ⟨b.1, b.2.1, b.2.2.1, b.2.2.2.1, b.2.2.2.2.1, lc_store hl2 hl, b.2.2.2.2.2.2⟩ c1 c2)
end WPF
theorem σC_row {r : Nat} (h : 46 ≤ r) : σC r = .inl (0, 7, false) := if_pos h
theorem us_row {N : Nat} (h : 46 ≤ N) : us σC N (.inl (0, 7, false)) = σC := by
  funext b
  unfold us
  by_cases e : b = N
  · rw [if_pos e, σC_row (by omega)]
  · rw [if_neg e]
abbrev h46 (N : Nat) : Prop := 46 ≤ N
abbrev isW (N r : Nat) : Prop := 46 ≤ r ∧ r < N
/-- each call of the class, in the larger world -/
theorem ST.frm {M M2 : Mem} {G : GN} {ko : Option GN} {t : Nat} {c : GN} (h : ST M2 G ko t c) : ST (frm M M2) G ko t c :=
  h.work (fun a ha => frm_lt (by omega)) (h.pln.kept (frm_lt (by decide)) (frm_lt (by decide)) (frm_lt (by decide)) (frm_lt (by decide)) (frm_lt (by decide)) (frm_lt (by decide)))
