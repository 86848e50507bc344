/-! the law: rows of its layer, and its loop -/
def LW (E : EN) (b L : Nat) (xs : Nat → Int32) (ce sl pc : Nat) (lv : List (Nat × Value)) (st : List Value) (N : Nat) (M : Mem) : Prop :=
  ∀ (p : Program) (e : Env) (s : State) (m : MethodId) (below : List Frame) (meth : Method) (c : Code) (H : Heap) (locs : List Loc) (lsr : Array Slot),
    lw_At p s m meth c b L xs → LwS E s H locs → va_P (eD E) vwCl (cW E σC N M) H → H.size = eB E + N → lv_has lsr 6 lv →
    W p (eL E) e room_1 s m #[Value.ref b] below meth c H locs ce sl (lw_Z below #[Value.ref b] s) (F0 m pc lsr st)
section LWR
variable {E : EN} {b L : Nat} {xs : Nat → Int32} {ce sl pc : Nat} {lv : List (Nat × Value)} {st : List Value} {N : Nat} {M : Mem}
theorem lr_iconst {z : Int} {v : Int32} (hd : decode code pc = .ok (.iconst z, 1)) (hv : Int32.ofInt z = v) (h : LW E b L xs ce sl (pc + 1) lv (.int v :: st) N M) : LW E b L xs ce sl pc lv st N M := fun p e s m below meth c H locs lsr a h0 h1 hz hl => lv_iconst a.1 a.2.1 hd hv (h p e s m below meth c H locs lsr a h0 h1 hz hl)
theorem lr_bipush {z : Int} {v : Int32} (hd : decode code pc = .ok (.bipush z, 2)) (hv : (Int8.ofInt z).toInt32 = v) (h : LW E b L xs ce sl (pc + 2) lv (.int v :: st) N M) : LW E b L xs ce sl pc lv st N M := fun p e s m below meth c H locs lsr a h0 h1 hz hl => lv_bipush a.1 a.2.1 hd hv (h p e s m below meth c H locs lsr a h0 h1 hz hl)
theorem lr_sipush {z : Int} {v : Int32} (hd : decode code pc = .ok (.sipush z, 3)) (hv : (Int16.ofInt z).toInt32 = v) (h : LW E b L xs ce sl (pc + 3) lv (.int v :: st) N M) : LW E b L xs ce sl pc lv st N M := fun p e s m below meth c H locs lsr a h0 h1 hz hl => lv_sipush a.1 a.2.1 hd hv (h p e s m below meth c H locs lsr a h0 h1 hz hl)
theorem lr_iload_n {i : Fin 4} {x : Int32} (q : Nat) (hd : decode code pc = .ok (.iload_n i, 1)) (hq : lv[q]? = some ((i : Nat), .int x)) (h : LW E b L xs ce sl (pc + 1) lv (.int x :: st) N M) : LW E b L xs ce sl pc lv st N M := fun p e s m below meth c H locs lsr a h0 h1 hz hl => lv_iload_n a.1 a.2.1 hd rfl (lv_at hl q hq) (h p e s m below meth c H locs lsr a h0 h1 hz hl)
theorem lr_iload {i : Nat} {x : Int32} (q : Nat) (hd : decode code pc = .ok (.iload i, 2)) (hq : lv[q]? = some (i, .int x)) (h : LW E b L xs ce sl (pc + 2) lv (.int x :: st) N M) : LW E b L xs ce sl pc lv st N M := fun p e s m below meth c H locs lsr a h0 h1 hz hl => lv_iload a.1 a.2.1 hd (lv_at hl q hq) (h p e s m below meth c H locs lsr a h0 h1 hz hl)
theorem lr_aload_n {i : Fin 4} {x : Nat} (q : Nat) (hd : decode code pc = .ok (.aload_n i, 1)) (hq : lv[q]? = some ((i : Nat), .ref x)) (h : LW E b L xs ce sl (pc + 1) lv (.ref x :: st) N M) : LW E b L xs ce sl pc lv st N M := fun p e s m below meth c H locs lsr a h0 h1 hz hl => lv_aload_n a.1 a.2.1 hd rfl (lv_at hl q hq) (h p e s m below meth c H locs lsr a h0 h1 hz hl)
theorem lr_irem {x y : Int32} (hd : decode code pc = .ok (.irem, 1)) (hne : ¬ y = 0) (h : LW E b L xs ce sl (pc + 1) lv (.int (x - x / y * y) :: st) N M) : LW E b L xs ce sl pc lv (.int y :: .int x :: st) N M := fun p e s m below meth c H locs lsr a h0 h1 hz hl => lv_irem a.1 a.2.1 hd hne (h p e s m below meth c H locs lsr a h0 h1 hz hl)
theorem lr_ishr {x y : Int32} (hd : decode code pc = .ok (.ishr, 1)) (h : LW E b L xs ce sl (pc + 1) lv (.int (x >>> (y &&& 31)) :: st) N M) : LW E b L xs ce sl pc lv (.int y :: .int x :: st) N M := fun p e s m below meth c H locs lsr a h0 h1 hz hl => lv_ishr a.1 a.2.1 hd (h p e s m below meth c H locs lsr a h0 h1 hz hl)
theorem lr_goto {off : Int} {tgt : Nat} (hd : decode code pc = .ok (.goto off, 3)) (ht : (pc : Int) + off = (tgt : Int)) (h : LW E b L xs ce sl tgt lv st N M) : LW E b L xs ce sl pc lv st N M := fun p e s m below meth c H locs lsr a h0 h1 hz hl => lv_goto a.1 a.2.1 hd ht (h p e s m below meth c H locs lsr a h0 h1 hz hl)
theorem lr_if_eq {x : Int32} {off : Int} {tgt : Nat} (hd : decode code pc = .ok (.ifCond .eq off, 3)) (ht : (pc : Int) + off = (tgt : Int)) (kt : x = 0 → LW E b L xs ce sl tgt lv st N M) (kf : ¬ x = 0 → LW E b L xs ce sl (pc + 3) lv st N M) : LW E b L xs ce sl pc lv (.int x :: st) N M := fun p e s m below meth c H locs lsr a h0 h1 hz hl => lv_if_eq a.1 a.2.1 hd ht (fun z => kt z p e s m below meth c H locs lsr a h0 h1 hz hl) (fun z => kf z p e s m below meth c H locs lsr a h0 h1 hz hl)
theorem lr_if_ne {x : Int32} {off : Int} {tgt : Nat} (hd : decode code pc = .ok (.ifCond .ne off, 3)) (ht : (pc : Int) + off = (tgt : Int)) (kt : ¬ x = 0 → LW E b L xs ce sl tgt lv st N M) (kf : x = 0 → LW E b L xs ce sl (pc + 3) lv st N M) : LW E b L xs ce sl pc lv (.int x :: st) N M := fun p e s m below meth c H locs lsr a h0 h1 hz hl => lv_if_ne a.1 a.2.1 hd ht (fun z => kt z p e s m below meth c H locs lsr a h0 h1 hz hl) (fun z => kf z p e s m below meth c H locs lsr a h0 h1 hz hl)
theorem lr_icmp_ge {x y : Int32} {off : Int} {tgt : Nat} (hd : decode code pc = .ok (.if_icmp .ge off, 3)) (ht : (pc : Int) + off = (tgt : Int)) (kt : y ≤ x → LW E b L xs ce sl tgt lv st N M) (kf : ¬ y ≤ x → LW E b L xs ce sl (pc + 3) lv st N M) : LW E b L xs ce sl pc lv (.int y :: .int x :: st) N M := fun p e s m below meth c H locs lsr a h0 h1 hz hl => lv_icmp_ge a.1 a.2.1 hd ht (fun z => kt z p e s m below meth c H locs lsr a h0 h1 hz hl) (fun z => kf z p e s m below meth c H locs lsr a h0 h1 hz hl)
theorem lr_icmp_lt {x y : Int32} {off : Int} {tgt : Nat} (hd : decode code pc = .ok (.if_icmp .lt off, 3)) (ht : (pc : Int) + off = (tgt : Int)) (kt : x < y → LW E b L xs ce sl tgt lv st N M) (kf : ¬ x < y → LW E b L xs ce sl (pc + 3) lv st N M) : LW E b L xs ce sl pc lv (.int y :: .int x :: st) N M := fun p e s m below meth c H locs lsr a h0 h1 hz hl => lv_icmp_lt a.1 a.2.1 hd ht (fun z => kt z p e s m below meth c H locs lsr a h0 h1 hz hl) (fun z => kf z p e s m below meth c H locs lsr a h0 h1 hz hl)
theorem lr_icmp_ne {x y : Int32} {off : Int} {tgt : Nat} (hd : decode code pc = .ok (.if_icmp .ne off, 3)) (ht : (pc : Int) + off = (tgt : Int)) (kt : ¬ x = y → LW E b L xs ce sl tgt lv st N M) (kf : x = y → LW E b L xs ce sl (pc + 3) lv st N M) : LW E b L xs ce sl pc lv (.int y :: .int x :: st) N M := fun p e s m below meth c H locs lsr a h0 h1 hz hl => lv_icmp_ne a.1 a.2.1 hd ht (fun z => kt z p e s m below meth c H locs lsr a h0 h1 hz hl) (fun z => kf z p e s m below meth c H locs lsr a h0 h1 hz hl)
theorem lr_istore_n {i : Fin 4} {x : Int32} {lv' : List (Nat × Value)} (hd : decode code pc = .ok (.istore_n i, 1)) (hn : (i : Nat) < 6) (hq : lst lv (i : Nat) (.int x) = lv') (h : LW E b L xs ce sl (pc + 1) lv' st N M) : LW E b L xs ce sl pc lv (.int x :: st) N M := fun p e s m below meth c H locs lsr a h0 h1 hz hl => lv_istore_n a.1 a.2.1 hd rfl hl hn hq (fun ls2 hl2 => h p e s m below meth c H locs ls2 a h0 h1 hz hl2)
theorem lr_istore {i : Nat} {x : Int32} {lv' : List (Nat × Value)} (hd : decode code pc = .ok (.istore i, 2)) (hn : i < 6) (hq : lst lv i (.int x) = lv') (h : LW E b L xs ce sl (pc + 2) lv' st N M) : LW E b L xs ce sl pc lv (.int x :: st) N M := fun p e s m below meth c H locs lsr a h0 h1 hz hl => lv_istore a.1 a.2.1 hd hl hn hq (fun ls2 hl2 => h p e s m below meth c H locs ls2 a h0 h1 hz hl2)
theorem lr_iinc {i : Nat} {z : Int} {x v : Int32} {lv' : List (Nat × Value)} (q : Nat) (hd : decode code pc = .ok (.iinc i z, 3)) (hk : lv[q]? = some (i, .int x)) (hv : x + Int32.ofInt z = v) (hn : i < 6) (hq : lst lv i (.int v) = lv') (h : LW E b L xs ce sl (pc + 3) lv' st N M) : LW E b L xs ce sl pc lv st N M := fun p e s m below meth c H locs lsr a h0 h1 hz hl => lv_iinc a.1 a.2.1 hd hl hk hv hn hq (fun ls2 hl2 => h p e s m below meth c H locs ls2 a h0 h1 hz hl2)
theorem lr_sub {lv' : List (Nat × Value)} (ks : List Nat) (hk : lv_pick lv ks = lv') (h : LW E b L xs ce sl pc lv' st N M) : LW E b L xs ce sl pc lv st N M := fun p e s m below meth c H locs lsr a h0 h1 hz hl => h p e s m below meth c H locs lsr a h0 h1 hz (lv_sub hl ks hk)
theorem lr_widen {ce' sl' : Nat} (hc : ce' ≤ ce) (hs : sl' ≤ sl) (h : LW E b L xs ce sl pc lv st N M) : LW E b L xs ce' sl' pc lv st N M := fun p e s m below meth c H locs lsr a h0 h1 hz hl => W.widen hc hs (h p e s m below meth c H locs lsr a h0 h1 hz hl)
theorem lr_ret (hce : ce ≤ 600000) (hsl : sl ≤ 7302249) (hd : decode code pc = .ok (.ireturn, 1)) : LW E b L xs ce sl pc lv [.int 1] N M := fun p e s m below meth c H locs lsr a h0 h1 hz hl => va_forget h0.2.1.2.2 (W.widen hce hsl (lw_ret a.1 a.2.1 a.2.2.1 a.2.2.2.2.2.2.2.2.1 hd))
theorem lr_cell {k : Nat} (hk : k < 1000) (hL : L ≤ 260) (hst : (st.map fun v => v.category).sum ≤ 8) (hce : ce ≤ 600000) (hsl : sl ≤ 7302249) (hd : decode code pc = .ok (.invokestatic 82, 3)) (h : ∀ x : Int32, LW E b L xs ce sl (pc + 3) lv (.int x :: st) N M) : LW E b L xs ce sl pc lv (.int (nI k) :: .ref b :: st) N M :=
  fun p e s m below meth c H locs lsr a h0 h1 hz hl => law_cell a h0 hl hk hL hst rfl hce hsl hd (fun x locs' h' => h x p e s m below meth c H locs' lsr a h' h1 hz hl)
theorem lr_callS {J : MI} {idx d' na : Nat} {As : List Value} {ws' : List Cond} {P : Int32 → Mem → Prop} {st0 : List Value} (hN : N ≤ 1000) (hd' : d' ≤ 9) (hM : MW E J d' 0 0 true As σC N M (qI σC N P)) (hG : GoodIn wsL_law (va_wsS RL idx (iY J) (iW J))) (hJ : iW J = Cond.code (iY J) J.1 J.2.1 J.2.2.1 :: ws')
    (hy : (iY J).cls ≠ "java/lang/invoke/MethodHandle" ∧ (iY J).cls ≠ "java/lang/invoke/VarHandle" ∧ (parseMethodDescriptor (iY J).desc).map (fun d => d.parameters.length) = some na) (hna : As.length = na)
    (hmx : J.2.1 ≤ 13) (hst : (st.map fun v => v.category).sum ≤ 8) (hs0 : st0 = (As.map (cV E)).reverse ++ st) (hce : ce ≤ 600000) (hsl : sl ≤ 7302249)
    (hd : decode code pc = .ok (.invokestatic idx, 3)) (h : ∀ (x : Int32) (M' : Mem), P x M' → LW E b L xs ce sl (pc + 3) lv (.int x :: st) N M') : LW E b L xs ce sl pc lv st0 N M := by
  intro p e s m below meth c H locs lsr a h0 h1 hz hl
  refine law_callS (k' := 0) (n' := 0) a h0 h1 hl hN hd' hz hM hG hJ hy hna hmx hst hs0 hce hsl hd (fun v σ' N' M' H' locs' hq h' hP' hz' => ?_)
  obtain ⟨x, rfl, rfl, rfl, hx⟩ := hq
  exact h x M' hx p e s m below meth c H' locs' lsr a h' hP' hz' hl
theorem lr_callJ {J : MI} {idx d' na : Nat} {As : List Value} {ws' : List Cond} {P : Int32 → Mem → Prop} {st0 : List Value} (hN : N ≤ 1000) (hd' : d' ≤ 9) (hM : MW E J d' 1 7 true As σC N M (qJ N P)) (hG : GoodIn wsL_law (va_wsS RL idx (iY J) (iW J))) (hJ : iW J = Cond.code (iY J) J.1 J.2.1 J.2.2.1 :: ws')
    (hy : (iY J).cls ≠ "java/lang/invoke/MethodHandle" ∧ (iY J).cls ≠ "java/lang/invoke/VarHandle" ∧ (parseMethodDescriptor (iY J).desc).map (fun d => d.parameters.length) = some na) (hna : As.length = na)
    (hmx : J.2.1 ≤ 13) (hst : (st.map fun v => v.category).sum ≤ 8) (hs0 : st0 = (As.map (cV E)).reverse ++ st) (hce : ce + 1 ≤ 600000) (hsl : sl + 7 ≤ 7302249)
    (hd : decode code pc = .ok (.invokestatic idx, 3)) (h : ∀ (x : Int32) (N' : Nat) (M' : Mem), N' = N ∨ N' = N + 1 → P x M' → LW E b L xs (ce + 1) (sl + 7) (pc + 3) lv (.int x :: st) N' M') : LW E b L xs ce sl pc lv st0 N M := by
  intro p e s m below meth c H locs lsr a h0 h1 hz hl
  refine law_callS (k' := 1) (n' := 7) a h0 h1 hl hN hd' hz hM hG hJ hy hna hmx hst hs0 hce hsl hd (fun v σ' N' M' H' locs' hq h' hP' hz' => ?_)
  obtain ⟨x, rfl, rfl, hN', hx⟩ := hq
  exact h x N' M' hN' hx p e s m below meth c H' locs' lsr a h' hP' hz' hl
theorem lr_callV {J : MI} {idx d' na : Nat} {As : List Value} {ws' : List Cond} {P : Int32 → Mem → Prop} {st0 : List Value} (h46 : 46 ≤ N) (hN : N ≤ 1000) (hd' : d' ≤ 9) (hM : MW E J d' 0 0 false (.ref 0 :: As) σC 46 M (qI σC 46 (fr M P))) (hG : GoodIn wsL_law (wsV RL idx (iO J) (iY J) (iW J))) (hJ : iW J = Cond.code (iY J) J.1 J.2.1 J.2.2.1 :: ws')
    (hy : (iY J).cls = iO J ∧ (iY J).cls ≠ "java/lang/invoke/MethodHandle" ∧ (iY J).cls ≠ "java/lang/invoke/VarHandle" ∧ (parseMethodDescriptor (iY J).desc).map (fun d => d.parameters.length) = some na) (hna : As.length = na) (hc : vwCl[6]? = some (iO J, TX6, 7))
    (hmx : J.2.1 ≤ 13) (hst : (st.map fun v => v.category).sum ≤ 8) (hs0 : st0 = (As.map (cV E)).reverse ++ .ref (aE E 0) :: st) (hce : ce ≤ 600000) (hsl : sl ≤ 7302249)
    (hd : decode code pc = .ok (.invokevirtual idx, 3)) (h : ∀ (x : Int32) (M' : Mem), P x M' → LW E b L xs ce sl (pc + 3) lv (.int x :: st) N M') : LW E b L xs ce sl pc lv st0 N M := by
  intro p e s m below meth c H locs lsr a h0 h1 hz hl
  exact law_callV (r := 0) (ci := 6) a h0 h1 hl hN hd' hz (mw_frame h46 hM) hG hJ hy hna rfl (by omega) hc hmx hst hs0 hce hsl hd (fun x M' H' locs' hx h' hP' hz' => h x M' hx p e s m below meth c H' locs' lsr a h' hP' hz' hl)
end LWR
abbrev lvE (E : EN) (b : Nat) (e : Nat) : List (Nat × Value) := [(0, .ref b), (1, .ref (aE E 0)), (2, .int (nI e))]
abbrev lvA (E : EN) (b : Nat) (e : Nat) (v g n : Int32) : List (Nat × Value) := [(5, .int n), (4, .int g), (3, .int v), (0, .ref b), (1, .ref (aE E 0)), (2, .int (nI e))]
/-- back to the loop's head -/
theorem law_next {E : EN} {b L : Nat} {xs : Nat → Int32} {ce sl e N : Nat} {v g n : Int32} {M : Mem} (he : e < 1000) (h : LW E b L xs ce sl 10 (lvE E b (e + 1)) [] N M) : LW E b L xs ce sl 98 (lvA E b e v g n) [] N M := by
  refine lr_iinc (v := nI (e + 1)) 5 dL_law_98 rfl (by rw [← nI_add]; rfl) (by decide) rfl ?_
  refine lr_goto (tgt := 10) dL_law_101 (by decide) ?_
  exact lr_sub [4, 5, 0] rfl h
theorem law_tail {E : EN} {b L : Nat} {xs : Nat → Int32} {ce sl e N t : Nat} {v g : Int32} {M : Mem} {G : GN} {ko : Option GN} {c : GN} (he : e < 1000) (h46 : 46 ≤ N) (hN : N < 1000) (hce : ce ≤ 600000) (hsl : sl ≤ 7302249) (hS : ST M G ko t c)
    (h : ∀ (M' : Mem) (ko' : Option GN), ST M' G ko' t c → LW E b L xs ce sl 10 (lvE E b (e + 1)) [] N M') : LW E b L xs ce sl 65 (lvA E b e v g (nI (G 0))) [] N M := by
  have hn7 := hS.v.1.2
  have hn1 := hS.v.1.1
  refine lr_iload_n 5 dL_law_65 rfl ?_
  refine lr_iconst (v := nI 4) dL_law_66 (by decide) ?_
  refine lr_irem dL_law_67 (by decide) ?_
  rw [pk_rem (by omega) (by decide) (by decide)]
  refine lr_iconst (v := nI 2) dL_law_68 (by decide) ?_
  refine lr_icmp_ne (tgt := 98) dL_law_69 (by decide) (fun _ => law_next he (h M ko hS)) (fun _ => ?_)
  refine lr_aload_n 4 dL_law_72 rfl ?_
  refine lr_iload_n 2 dL_law_73 rfl ?_
  refine lr_iconst (v := nI 5) dL_law_74 (by decide) ?_
  refine lr_ishr dL_law_75 ?_
  refine lr_iload 0 dL_law_76 rfl ?_
  refine lr_callS (As := [.int _, .int (nI (G 0))]) (P := fun x M' => M' = M ∧ ∃ j, j < G 0 ∧ x = nI j) (st := [.ref (aE E 0)]) (by omega) (by decide) (mw_L_low (pl_low (by omega) (by omega) (fun j hj => ⟨rfl, j, hj, rfl⟩))) gL_law_L_low rfl hy_L_low rfl (by decide) (Nat.le_of_ble_eq_true rfl) rfl hce hsl dL_law_78 ?_
  rintro _ M1 ⟨rfl, f, hf, rfl⟩
  refine lr_iload_n 2 dL_law_81 rfl ?_
  refine lr_bipush (v := nI 8) dL_law_82 (by decide) ?_
  refine lr_ishr dL_law_84 ?_
  refine lr_iload 0 dL_law_85 rfl ?_
  refine lr_callS (As := [.int _, .int (nI (G 0))]) (P := fun x M' => M' = M1 ∧ ∃ j, j < G 0 ∧ x = nI j) (st := [.int (nI f), .ref (aE E 0)]) (by omega) (by decide) (mw_L_low (pl_low (by omega) (by omega) (fun j hj => ⟨rfl, j, hj, rfl⟩))) gL_law_L_low rfl hy_L_low rfl (by decide) (Nat.le_of_ble_eq_true rfl) rfl hce hsl dL_law_87 ?_
  rintro _ M2 ⟨rfl, s, hs, rfl⟩
  refine lr_callS (As := [.ref 0, .int (nI f), .int (nI s)]) (P := fun x M' => x = nI 1 ∧ ∃ ko', ST M' G ko' t c) (st := []) (by omega) (by decide) (mw_L_areOrdersSo h46 (pl_areOrdersSo hS hf hs (fun ko' M' h' => ⟨rfl, ko', h'⟩))) gL_law_L_areOrdersSo rfl hy_L_areOrdersSo rfl (by decide) (Nat.le_of_ble_eq_true rfl) rfl hce hsl dL_law_90 ?_
  rintro _ M3 ⟨rfl, ko3, h3⟩
  exact lr_if_ne (tgt := 98) dL_law_93 (by decide) (fun _ => law_next he (h M3 ko3 h3)) (fun z => absurd z (by decide))
set_option maxHeartbeats 4000000 in
theorem law_loop {E : EN} {b L : Nat} {xs : Nat → Int32} (hL : L ≤ 260) : ∀ (n e N : Nat) (M : Mem) (G : GN) (ko : Option GN) (t : Nat) (c : GN), e + n = 36 → 46 ≤ N → N ≤ 46 + e → ST M G ko t c → LW E b L xs (100 + e) (1000 + 10 * e) 10 (lvE E b e) [] N M := by
  intro n
  induction n with
  | zero =>
    intro e N M G ko t c he h46 hN hS
    have e36 : e = 36 := by omega
    subst e36
    refine lr_iload_n 2 dL_law_10 rfl ?_
    refine lr_bipush (v := nI 36) dL_law_11 (by decide) ?_
    refine lr_icmp_ge (tgt := 104) dL_law_13 (by decide) (fun _ => ?_) (fun z => absurd (by decide) z)
    refine lr_iconst (v := 1) dL_law_104 (by decide) ?_
    exact lr_ret (by decide) (by decide) dL_law_105
  | succ n ih =>
    intro e N M G ko t c he h46 hN hS
    refine lr_iload_n 2 dL_law_10 rfl ?_
    refine lr_bipush (v := nI 36) dL_law_11 (by decide) ?_
    refine lr_icmp_ge (tgt := 104) dL_law_13 (by decide) (fun z => ?_) (fun _ => ?_)
    · rw [nI_leI (by decide) (by omega)] at z
      omega
    refine lr_aload_n 0 dL_law_16 rfl ?_
    refine lr_iload_n 2 dL_law_17 rfl ?_
    refine lr_cell (by omega) hL (Nat.le_of_ble_eq_true rfl) (by omega) (by omega) dL_law_18 (fun v => ?_)
    refine lr_istore_n (lv' := [(3, .int v), (0, .ref b), (1, .ref (aE E 0)), (2, .int (nI e))]) dL_law_21 (by decide) rfl ?_
    refine lr_aload_n 2 dL_law_22 rfl ?_
    refine lr_iload_n 0 dL_law_23 rfl ?_
    refine lr_callS (As := [.ref 0, .int v]) (P := fun x M' => okv x ∧ ∃ G t' c', ST M' G ko t' c') (st := []) (by omega) (by decide) (mw_L_does h46 (pl_does hS (fun v G' t' c' M' o h' => ⟨o, G', t', c', h'⟩))) gL_law_L_does rfl hy_L_does rfl (by decide) (Nat.le_of_ble_eq_true rfl) rfl (by omega) (by omega) dL_law_24 ?_
    rintro g M1 ⟨og, G1, t1, c1, h1⟩
    refine lr_istore (lv' := [(4, .int g), (3, .int v), (0, .ref b), (1, .ref (aE E 0)), (2, .int (nI e))]) dL_law_27 (by decide) rfl ?_
    refine lr_aload_n 3 dL_law_29 rfl ?_
    refine lr_iconst (v := nI 0) dL_law_30 (by decide) ?_
    refine lr_callV (As := [.int (nI 0)]) (P := fun x M' => x = nI (G1 0) ∧ ST M' G1 ko t1 c1) (st := []) h46 (by omega) (by decide) (mw_X6_count (pc_count0 h1 (fr_ST (fun M' h' _ => ⟨rfl, h'⟩) M1 h1))) gL_law_X6_count rfl hy_X6_count rfl rfl (by decide) (Nat.le_of_ble_eq_true rfl) rfl (by omega) (by omega) dL_law_31 ?_
    rintro _ M2 ⟨rfl, h2⟩
    refine lr_istore (lv' := lvA E b e v g (nI (G1 0))) dL_law_34 (by decide) rfl ?_
    refine lr_iload 1 dL_law_36 rfl ?_
    refine lr_sipush (v := -1005) dL_law_38 (by decide) ?_
    refine lr_icmp_lt (tgt := 96) dL_law_41 (by decide) (fun z => absurd z og) (fun _ => ?_)
    refine lr_aload_n 4 dL_law_44 rfl ?_
    refine lr_callS (As := [.ref 0]) (P := fun x M' => x = nI 1 ∧ ST M' G1 ko t1 c1) (st := []) (by omega) (by decide) (mw_L_areBendsSo h46 (pl_areBendsSo h2 (fun M' h' => ⟨rfl, h'⟩))) gL_law_L_areBendsSo rfl hy_L_areBendsSo rfl (by decide) (Nat.le_of_ble_eq_true rfl) rfl (by omega) (by omega) dL_law_45 ?_
    rintro _ M3 ⟨rfl, h3⟩
    refine lr_if_eq (tgt := 96) dL_law_48 (by decide) (fun z => absurd z (by decide)) (fun _ => ?_)
    refine lr_iload_n 5 dL_law_51 rfl ?_
    refine lr_iconst (v := nI 3) dL_law_52 (by decide) ?_
    refine lr_irem dL_law_53 (by decide) ?_
    rw [pk_rem (by omega) (by decide) (by decide)]
    refine lr_iconst (v := nI 1) dL_law_54 (by decide) ?_
    refine lr_icmp_ne (tgt := 65) dL_law_55 (by decide) (fun _ => ?_) (fun _ => ?_)
    · refine lr_widen (ce := 100 + (e + 1)) (sl := 1000 + 10 * (e + 1)) (by omega) (by omega) ?_
      exact law_tail (by omega) h46 (by omega) (by omega) (by omega) h3 (fun M' ko' h' => ih (e + 1) N M' G1 ko' t1 c1 (by omega) h46 (by omega) h')
    · refine lr_aload_n 4 dL_law_58 rfl ?_
      refine lr_callJ (As := [.ref 0]) (P := fun x M' => x = nI 1 ∧ ∃ ko', ST M' G1 ko' t1 c1) (st := []) (by omega) (by decide) (mw_L_isOrderSo h46 (by omega) (pl_isOrderSo h46 h3 (fun ko' M' h' => ⟨rfl, ko', h'⟩))) gL_law_L_isOrderSo rfl hy_L_isOrderSo rfl (by decide) (Nat.le_of_ble_eq_true rfl) rfl (by omega) (by omega) dL_law_59 ?_
      rintro _ N4 M4 hN4 ⟨rfl, ko4, h4⟩
      refine lr_if_eq (tgt := 96) dL_law_62 (by decide) (fun z => absurd z (by decide)) (fun _ => ?_)
      refine lr_widen (ce := 100 + (e + 1)) (sl := 1000 + 10 * (e + 1)) (by omega) (by omega) ?_
      exact law_tail (by omega) (by omega) (by omega) (by omega) (by omega) h4 (fun M' ko' h' => ih (e + 1) N4 M' G1 ko' t1 c1 (by omega) (by omega) (by omega) h')
