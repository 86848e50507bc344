/-! a world as numbers: cells 0 .. N-1 lie at base .. base+N-1; three static arrays; every method by what holds behind it -/
abbrev KD : Type := (Nat × Nat × Bool) ⊕ (Nat × List (Option (Option Nat)))
abbrev EN : Type := Launch × va_G × (Nat → ClassId) × Nat × (Nat → Nat)
abbrev eL (E : EN) : Launch := E.1
abbrev eD (E : EN) : va_G := E.2.1
abbrev eC (E : EN) : Nat → ClassId := E.2.2.1
abbrev eB (E : EN) : Nat := E.2.2.2.1
abbrev eS (E : EN) : Nat → Nat := E.2.2.2.2
abbrev MI : Type := ByteArray × Nat × Option FieldType × String × MethodName × List Cond
abbrev iW (I : MI) : List Cond := I.2.2.2.2.2
abbrev iY (I : MI) : MethodName := I.2.2.2.2.1
abbrev iO (I : MI) : String := I.2.2.2.1
abbrev PST : Type := Option Value → (Nat → KD) → Nat → (Nat → Nat → Int32) → Prop
def eT (E : EN) : List (ClassId × FieldType) := [(eC E 0, .int), (eC E 1, .char), (eC E 2, .boolean), (eC E 3, .object RX4)]
def aE (E : EN) (r : Nat) : Nat := if r < 1000 then eB E + r else eS E (r - 1000)
def cV (E : EN) (v : Value) : Value := match v with
  | .ref r => .ref (aE E r)
  | .int x => .int x
  | .null => .null
  | w => w
def cL (E : EN) (q : Nat × Value) : Nat × Value := (q.1, cV E q.2)
def cR (E : EN) (x : Int32) : Option Nat := if x < 0 then none else some (aE E x.toNatClampNeg)
def aR (x : Int32) : Value := if x < 0 then .null else .ref x.toNatClampNeg
def aF (f : Nat → Int32) (k : Nat) (x : Option (Option Nat)) : Value := match x with
  | none => .int (f k)
  | some none => .null
  | some (some r) => .ref r
def cK (E : EN) (κ : KD) (f : Nat → Int32) : va_E := match κ with
  | .inl (t, n, false) => .inl (eC E t, n, .inl f)
  | .inl (t, n, true) => .inl (eC E t, n, .inr (.inr (.inr (.inr (fun i => cR E (f i))))))
  | .inr (ci, fk) => .inr (ci, fk.mapIdx (fun k x => cV E (aF f k x)))
def cW (E : EN) (σ : Nat → KD) (N : Nat) (M : Nat → Nat → Int32) : va_W := (List.range N).map (fun k => (aE E k, cK E (σ k) (M k)))
def um (M : Nat → Nat → Int32) (a : Nat) (f : Nat → Int32) : Nat → Nat → Int32 := fun b => if b = a then f else M b
def us (σ : Nat → KD) (a : Nat) (κ : KD) : Nat → KD := fun b => if b = a then κ else σ b
def sv (j k : Nat) : Int32 := match j with
  | 0 => ([6, 1, 1, 3] : List Int32).getD k 0
  | 1 => ([1, 0, 0, 0] : List Int32).getD k 0
  | _ => ([12, 3, 9, 9] : List Int32).getD k 0
def sn (j : Nat) : String := match j with
  | 0 => "FIRST_SETTINGS"
  | 1 => "LEAST_SETTINGS"
  | _ => "MOST_SETTINGS"
def SC (E : EN) (A : Nat → Prop) (U : State) (H : Heap) : Prop :=
  (∀ j, j < 3 → va_Z RX6 (sn j) "[I" (.ref (eS E j)) A U H ∧ va_T .int (eS E j) 4 (fun k => .int (sv j k)) A U H) ∧ va_AO RX4 U ∧ va_Nw (.fieldLinkNest RX4 32 RX6 "FIRST_SETTINGS" "[I" RX6) U
def rmD (d mc ms : Nat) : Room := { frames := d, cells := mc, slots := ms, locals := d * 32 }
def CA (I : MI) (p : Program) (s : State) (m : MethodId) (args : Array Value) (meth : Method) (c : Code) : Prop :=
  p.tables.exec = Jvm.exec ∧ c.code = I.1 ∧ c.maxLocals = I.2.1 ∧ meth.sig.returnType = I.2.2.1 ∧ s.vm.findClass (iO I) = some m.cls ∧ (∀ w ∈ iW I, w.before args s = true) ∧ meth.locks = false ∧ meth.name = (iY I).name
def CB (E : EN) (I : MI) (al : Bool) (s : State) (H : Heap) (locs : List Loc) (A : Nat → Prop) (lsr : Array Slot) (ls : List (Nat × Value)) (σ : Nat → KD) (N : Nat) (M : Nat → Nat → Int32) : Prop :=
  va_K (eD E) vwCl (eT E) s ∧ va_P (eD E) vwCl (cW E σ N M) H ∧ va_D A (cW E σ N M) ∧ va_S A s.heap H locs ∧ (∀ q, s.heap.size ≤ q → A q) ∧ lv_has lsr I.2.1 (ls.map (cL E)) ∧ SC E A s s.heap ∧ N ≤ 1000 ∧ (al = true → H.size = eB E + N)
def QC (E : EN) (al : Bool) (A : Nat → Prop) (Q : PST) : Array Value → State → Outcome → State → Prop := fun _ st oc t =>
  (∃ (r : Option Value) (σ : Nat → KD) (N : Nat) (M : Nat → Nat → Int32), oc = .returned (r.map (cV E)) ∧ Q r σ N M ∧ va_P (eD E) vwCl (cW E σ N M) t.heap ∧ va_K (eD E) vwCl (eT E) t ∧ va_D A (cW E σ N M) ∧ N ≤ 1000 ∧ (al = true → t.heap.size = eB E + N)) ∧ va_F A st t
def WP (E : EN) (I : MI) (d k n : Nat) (al : Bool) (pc : Nat) (ls : List (Nat × Value)) (st : List Value) (σ : Nat → KD) (N : Nat) (M : Nat → Nat → Int32) (Q : PST) : Prop :=
  ∀ (p : Program) (e : Env) (s : State) (m : MethodId) (args : Array Value) (below : List Frame) (meth : Method) (c : Code) (H : Heap) (locs : List Loc) (cells slots mc ms : Nat) (A : Nat → Prop) (lsr : Array Slot),
    CA I p s m args meth c → CB E I al s H locs A lsr ls σ N M → cells + k ≤ mc → slots + n ≤ ms →
    W p (eL E) e (rmD d mc ms) s m args below meth c H locs cells slots (MQ below (QC E al A Q) args s mc ms A) (F0 m pc lsr (st.map (cV E)))
def PRE (E : EN) (σ : Nat → KD) (N : Nat) (M : Nat → Nat → Int32) (sz : Nat) (U : State) : Prop :=
  U.heap.size = sz ∧ va_P (eD E) vwCl (cW E σ N M) U.heap ∧ va_K (eD E) vwCl (eT E) U ∧ va_D (fun _ => True) (cW E σ N M) ∧ SC E (va_A (cW E σ N M) sz) U U.heap ∧ N ≤ 1000
def MW (E : EN) (I : MI) (d k n : Nat) (al : Bool) (av : List Value) (σ : Nat → KD) (N : Nat) (M : Nat → Nat → Int32) (Q : PST) : Prop :=
  ∀ sz : Nat, (al = true → sz = eB E + N) → Met (eL E) (iY I) (iW I) (rmD d k n) (va_Pc (av.map (cV E)) (PRE E σ N M sz)) (QC E al (va_A (cW E σ N M) sz) Q) k n (va_A (cW E σ N M) sz)
theorem aE_lt {E : EN} {r : Nat} (h : r < 1000) : aE E r = eB E + r := if_pos h
theorem cV_cat (E : EN) (v : Value) : (cV E v).category = v.category := by cases v <;> rfl
theorem cat_map (E : EN) (st : List Value) : ((st.map (cV E)).map fun v => v.category) = st.map fun v => v.category := by
  rw [List.map_map]
  exact List.map_congr_left fun v _ => cV_cat E v
theorem cW_get {E : EN} {σ : Nat → KD} {N : Nat} {M : Nat → Nat → Int32} {k : Nat} (h : k < N) : (cW E σ N M)[k]? = some (aE E k, cK E (σ k) (M k)) := by
  simp [cW, h]
theorem cW_len (E : EN) (σ : Nat → KD) (N : Nat) (M : Nat → Nat → Int32) : (cW E σ N M).length = N := by simp [cW]
theorem cW_set {E : EN} {σ : Nat → KD} {N : Nat} {M : Nat → Nat → Int32} {k : Nat} (κ : KD) (f : Nat → Int32) : (cW E σ N M).set k (aE E k, cK E κ f) = cW E (us σ k κ) N (um M k f) := by
  apply List.ext_getElem?
  intro j
  by_cases hj : j < N
  · by_cases h : k = j
    · subst h
      rw [List.getElem?_set_self (by rw [cW_len]; exact hj), cW_get hj]
      simp [us, um]
    · rw [List.getElem?_set_ne h, cW_get hj, cW_get hj]
      simp [us, um, Ne.symm h]
  · rw [List.getElem?_eq_none (by rw [List.length_set, cW_len]; omega), List.getElem?_eq_none (by rw [cW_len]; omega)]
theorem us_same (σ : Nat → KD) (a : Nat) : us σ a (σ a) = σ := by
  funext b
  by_cases h : b = a
  · subst h; simp [us]
  · simp [us, h]
theorem cW_set' {E : EN} {σ : Nat → KD} {N : Nat} {M : Nat → Nat → Int32} {k : Nat} {e : va_E} (f : Nat → Int32) (he : e = cK E (σ k) f) : (cW E σ N M).set k (aE E k, e) = cW E σ N (um M k f) := by
  subst he
  rw [cW_set, us_same]
theorem cW_push (E : EN) (σ : Nat → KD) (N : Nat) (M : Nat → Nat → Int32) (κ : KD) (f : Nat → Int32) : cW E σ N M ++ [(aE E N, cK E κ f)] = cW E (us σ N κ) (N + 1) (um M N f) := by
  unfold cW
  rw [List.range_succ, List.map_append]
  congr 1
  · apply List.map_congr_left
    intro k hk
    have := List.mem_range.mp hk
    have h : k ≠ N := by omega
    simp [us, um, h]
  · simp [us, um]
theorem cL_filter (E : EN) (ls : List (Nat × Value)) (i : Nat) : (ls.map (cL E)).filter (fun q => !(q.1 == i) && !(q.1 + 1 == i && q.2.category == 2)) = (ls.filter (fun q => !(q.1 == i) && !(q.1 + 1 == i && q.2.category == 2))).map (cL E) := by
  rw [List.filter_map]
  congr 1
  apply List.filter_congr
  intro q _
  simp only [Function.comp, cL, cV_cat]
def lst (ls : List (Nat × Value)) (i : Nat) (v : Value) : List (Nat × Value) := (i, v) :: ls.filter (fun q => !(q.1 == i) && !(q.1 + 1 == i && q.2.category == 2))
theorem lc_store {E : EN} {lsr : Array Slot} {nL i : Nat} {v : Value} {ls ls' : List (Nat × Value)} {ks : List Nat} (h : lv_has lsr nL ((i, cV E v) :: (ls.map (cL E)).filter (fun q => !(q.1 == i) && !(q.1 + 1 == i && q.2.category == 2)))) (hl : lv_pick (lst ls i v) ks = ls') : lv_has lsr nL (ls'.map (cL E)) := by
  rw [cL_filter] at h
  refine ⟨h.1, h.2.1, fun q hq => ?_⟩
  obtain ⟨q', hq', rfl⟩ := List.mem_map.mp hq
  rw [← hl] at hq'
  obtain ⟨j, -, hj⟩ := List.mem_filterMap.mp hq'
  have hm : q' ∈ lst ls i v := List.mem_of_getElem? hj
  apply h.2.2
  rcases List.mem_cons.mp hm with rfl | hm
  · exact List.mem_cons_self
  · exact List.mem_cons_of_mem _ (List.mem_map.mpr ⟨q', hm, rfl⟩)
theorem lc_at {E : EN} {lsr : Array Slot} {nL i q : Nat} {v : Value} {ls : List (Nat × Value)} (h : lv_has lsr nL (ls.map (cL E))) (hl : ls[q]? = some (i, v)) : lsr[i]? = some (.val (cV E v)) :=
  lv_at h q (v := cV E v) (by rw [List.getElem?_map, hl]; rfl)
theorem SC.moved {E : EN} {A : Nat → Prop} {u U : State} {H : Heap} (hvm : u.vm.Alike U.vm) (hN : va_Nw (.fieldLinkNest RX4 32 RX6 "FIRST_SETTINGS" "[I" RX6) u → va_Nw (.fieldLinkNest RX4 32 RX6 "FIRST_SETTINGS" "[I" RX6) U) (h : SC E A u H) : SC E A U H :=
  ⟨fun j hj => ⟨(h.1 j hj).1.moved hvm, (h.1 j hj).2.moved hvm⟩, h.2.1.moved hvm, hN h.2.2⟩
theorem SC.narrow {E : EN} {A B : Nat → Prop} {U : State} {H : Heap} (hAB : ∀ q, B q → A q) (h : SC E A U H) : SC E B U H :=
  ⟨fun j hj => ⟨(h.1 j hj).1.narrow hAB, (h.1 j hj).2.narrow hAB⟩, h.2⟩
theorem SC.kept {E : EN} {A : Nat → Prop} {U : State} {H H1 : Heap} (hq : ∀ a : Nat, a < H.size → ¬ A a → H1[a]? = H[a]?) (h : SC E A U H) : SC E A U H1 :=
  ⟨fun j hj => ⟨(h.1 j hj).1.kept hq, (h.1 j hj).2.kept hq⟩, h.2⟩
theorem cV_st (E : EN) (j : Nat) : cV E (.ref (1000 + j)) = .ref (eS E j) := by
  have h : ¬ 1000 + j < 1000 := Nat.not_lt.mpr (Nat.le_add_right 1000 j)
  show Value.ref (aE E (1000 + j)) = _
  unfold aE
  rw [if_neg h, Nat.add_sub_cancel_left]
section WPR
variable {E : EN} {I : MI} {d k n : Nat} {al : Bool} {pc : Nat} {ls : List (Nat × Value)} {st : List Value} {σ : Nat → KD} {N : Nat} {M : Nat → Nat → Int32} {Q : PST}

theorem wp_iconst {z : Int} {v : Int32} (hd : decode I.1 pc = .ok (.iconst z, 1)) (hv : Int32.ofInt z = v) (h : WP E I d k n al (pc + 1) ls (.int v :: st) σ N M Q) : WP E I d k n al pc ls (st) σ N M Q := fun p e s m args below meth c H locs cells slots mc ms A lsr a b c1 c2 => lv_iconst a.1 a.2.1 hd hv (h p e s m args below meth c H locs cells slots mc ms A lsr a b c1 c2)
theorem wp_bipush {z : Int} {v : Int32} (hd : decode I.1 pc = .ok (.bipush z, 2)) (hv : (Int8.ofInt z).toInt32 = v) (h : WP E I d k n al (pc + 2) ls (.int v :: st) σ N M Q) : WP E I d k n al pc ls (st) σ N M Q := fun p e s m args below meth c H locs cells slots mc ms A lsr a b c1 c2 => lv_bipush a.1 a.2.1 hd hv (h p e s m args below meth c H locs cells slots mc ms A lsr a b c1 c2)
theorem wp_sipush {z : Int} {v : Int32} (hd : decode I.1 pc = .ok (.sipush z, 3)) (hv : (Int16.ofInt z).toInt32 = v) (h : WP E I d k n al (pc + 3) ls (.int v :: st) σ N M Q) : WP E I d k n al pc ls (st) σ N M Q := fun p e s m args below meth c H locs cells slots mc ms A lsr a b c1 c2 => lv_sipush a.1 a.2.1 hd hv (h p e s m args below meth c H locs cells slots mc ms A lsr a b c1 c2)
theorem wp_null  (hd : decode I.1 pc = .ok (.aconst_null, 1))  (h : WP E I d k n al (pc + 1) ls (.null :: st) σ N M Q) : WP E I d k n al pc ls (st) σ N M Q := fun p e s m args below meth c H locs cells slots mc ms A lsr a b c1 c2 => lv_null a.1 a.2.1 hd (h p e s m args below meth c H locs cells slots mc ms A lsr a b c1 c2)
theorem wp_ldcw {j : Nat} {v : Int32} (hw : Jvm.Cond.constant (iO I) j v ∈ iW I) (hd : decode I.1 pc = .ok (.ldc_w j, 3)) (h : WP E I d k n al (pc + 3) ls (.int v :: st) σ N M Q) : WP E I d k n al pc ls st σ N M Q := fun p e s m args below meth c H locs cells slots mc ms A lsr a b c1 c2 => lv_ldcw a.1 a.2.1 a.2.2.2.2.1 (a.2.2.2.2.2.1 _ hw) hd (h p e s m args below meth c H locs cells slots mc ms A lsr a b c1 c2)
theorem wp_iload_n {i : Fin 4} {x : Int32} (q : Nat) (hd : decode I.1 pc = .ok (.iload_n i, 1)) (hl : ls[q]? = some ((i : Nat), .int x)) (h : WP E I d k n al (pc + 1) ls (.int x :: st) σ N M Q) : WP E I d k n al pc ls st σ N M Q := fun p e s m args below meth c H locs cells slots mc ms A lsr a b c1 c2 => lv_iload_n a.1 a.2.1 hd rfl (lc_at b.2.2.2.2.2.1 hl) (h p e s m args below meth c H locs cells slots mc ms A lsr a b c1 c2)
theorem wp_iload {i : Nat} {x : Int32} (q : Nat) (hd : decode I.1 pc = .ok (.iload i, 2)) (hl : ls[q]? = some (i, .int x)) (h : WP E I d k n al (pc + 2) ls (.int x :: st) σ N M Q) : WP E I d k n al pc ls st σ N M Q := fun p e s m args below meth c H locs cells slots mc ms A lsr a b c1 c2 => lv_iload a.1 a.2.1 hd (lc_at b.2.2.2.2.2.1 hl) (h p e s m args below meth c H locs cells slots mc ms A lsr a b c1 c2)
theorem wp_aload_n {i : Fin 4} {x : Nat} (q : Nat) (hd : decode I.1 pc = .ok (.aload_n i, 1)) (hl : ls[q]? = some ((i : Nat), .ref x)) (h : WP E I d k n al (pc + 1) ls (.ref x :: st) σ N M Q) : WP E I d k n al pc ls st σ N M Q := fun p e s m args below meth c H locs cells slots mc ms A lsr a b c1 c2 => lv_aload_n a.1 a.2.1 hd rfl (lc_at b.2.2.2.2.2.1 hl) (h p e s m args below meth c H locs cells slots mc ms A lsr a b c1 c2)
theorem wp_aload_nN {i : Fin 4} (q : Nat) (hd : decode I.1 pc = .ok (.aload_n i, 1)) (hl : ls[q]? = some ((i : Nat), .null)) (h : WP E I d k n al (pc + 1) ls (.null :: st) σ N M Q) : WP E I d k n al pc ls st σ N M Q := fun p e s m args below meth c H locs cells slots mc ms A lsr a b c1 c2 => lv_aload_nN a.1 a.2.1 hd rfl (lc_at b.2.2.2.2.2.1 hl) (h p e s m args below meth c H locs cells slots mc ms A lsr a b c1 c2)
theorem wp_istore_n {i : Fin 4} {x : Int32} {ls' : List (Nat × Value)} (ks : List Nat) (hd : decode I.1 pc = .ok (.istore_n i, 1)) (hl : lv_pick (lst ls (i : Nat) (.int x)) ks = ls') (hn : (i : Nat) < I.2.1) (h : WP E I d k n al (pc + 1) ls' st σ N M Q) : WP E I d k n al pc ls (.int x :: st) σ N M Q := fun p e s m args below meth c H locs cells slots mc ms A lsr a b c1 c2 => lv_istore_n a.1 a.2.1 hd rfl b.2.2.2.2.2.1 hn rfl (fun ls2 hl2 => h p e s m args below meth c H locs cells slots mc ms A ls2 a ⟨b.1, b.2.1, b.2.2.1, b.2.2.2.1, b.2.2.2.2.1, lc_store hl2 hl, b.2.2.2.2.2.2⟩ c1 c2)
theorem wp_istore {i : Nat} {x : Int32} {ls' : List (Nat × Value)} (ks : List Nat) (hd : decode I.1 pc = .ok (.istore i, 2)) (hl : lv_pick (lst ls i (.int x)) ks = ls') (hn : i < I.2.1) (h : WP E I d k n al (pc + 2) ls' st σ N M Q) : WP E I d k n al pc ls (.int x :: st) σ N M Q := fun p e s m args below meth c H locs cells slots mc ms A lsr a b c1 c2 => lv_istore a.1 a.2.1 hd b.2.2.2.2.2.1 hn rfl (fun ls2 hl2 => h p e s m args below meth c H locs cells slots mc ms A ls2 a ⟨b.1, b.2.1, b.2.2.1, b.2.2.2.1, b.2.2.2.2.1, lc_store hl2 hl, b.2.2.2.2.2.2⟩ c1 c2)
theorem wp_astore_n {i : Fin 4} {x : Nat} {ls' : List (Nat × Value)} (ks : List Nat) (hd : decode I.1 pc = .ok (.astore_n i, 1)) (hl : lv_pick (lst ls (i : Nat) (.ref x)) ks = ls') (hn : (i : Nat) < I.2.1) (h : WP E I d k n al (pc + 1) ls' st σ N M Q) : WP E I d k n al pc ls (.ref x :: st) σ N M Q := fun p e s m args below meth c H locs cells slots mc ms A lsr a b c1 c2 => lv_astore_n a.1 a.2.1 hd rfl b.2.2.2.2.2.1 hn rfl (fun ls2 hl2 => h p e s m args below meth c H locs cells slots mc ms A ls2 a ⟨b.1, b.2.1, b.2.2.1, b.2.2.2.1, b.2.2.2.2.1, lc_store hl2 hl, b.2.2.2.2.2.2⟩ c1 c2)
theorem wp_astore_nN {i : Fin 4} {ls' : List (Nat × Value)} (ks : List Nat) (hd : decode I.1 pc = .ok (.astore_n i, 1)) (hl : lv_pick (lst ls (i : Nat) .null) ks = ls') (hn : (i : Nat) < I.2.1) (h : WP E I d k n al (pc + 1) ls' st σ N M Q) : WP E I d k n al pc ls (.null :: st) σ N M Q := fun p e s m args below meth c H locs cells slots mc ms A lsr a b c1 c2 => lv_astore_nN a.1 a.2.1 hd rfl b.2.2.2.2.2.1 hn rfl (fun ls2 hl2 => h p e s m args below meth c H locs cells slots mc ms A ls2 a ⟨b.1, b.2.1, b.2.2.1, b.2.2.2.1, b.2.2.2.2.1, lc_store hl2 hl, b.2.2.2.2.2.2⟩ c1 c2)
theorem wp_iinc {i : Nat} {z : Int} {x v : Int32} {ls' : List (Nat × Value)} (q : Nat) (ks : List Nat) (hd : decode I.1 pc = .ok (.iinc i z, 3)) (hq : ls[q]? = some (i, .int x)) (hv : x + Int32.ofInt z = v) (hl : lv_pick (lst ls i (.int v)) ks = ls') (hn : i < I.2.1) (h : WP E I d k n al (pc + 3) ls' st σ N M Q) : WP E I d k n al pc ls st σ N M Q := fun p e s m args below meth c H locs cells slots mc ms A lsr a b c1 c2 => lv_iinc (v := v) a.1 a.2.1 hd b.2.2.2.2.2.1 (k := q) (by rw [List.getElem?_map, hq]; rfl) hv hn rfl (fun ls2 hl2 => h p e s m args below meth c H locs cells slots mc ms A ls2 a ⟨b.1, b.2.1, b.2.2.1, b.2.2.2.1, b.2.2.2.2.1, lc_store hl2 hl, b.2.2.2.2.2.2⟩ c1 c2)
theorem wp_iadd {x y : Int32} (hd : decode I.1 pc = .ok (.iadd, 1))  (h : WP E I d k n al (pc + 1) ls (.int (x + y) :: st) σ N M Q) : WP E I d k n al pc ls (.int y :: .int x :: st) σ N M Q := fun p e s m args below meth c H locs cells slots mc ms A lsr a b c1 c2 => lv_iadd a.1 a.2.1 hd (h p e s m args below meth c H locs cells slots mc ms A lsr a b c1 c2)
theorem wp_isub {x y : Int32} (hd : decode I.1 pc = .ok (.isub, 1))  (h : WP E I d k n al (pc + 1) ls (.int (x - y) :: st) σ N M Q) : WP E I d k n al pc ls (.int y :: .int x :: st) σ N M Q := fun p e s m args below meth c H locs cells slots mc ms A lsr a b c1 c2 => lv_isub a.1 a.2.1 hd (h p e s m args below meth c H locs cells slots mc ms A lsr a b c1 c2)
theorem wp_imul {x y : Int32} (hd : decode I.1 pc = .ok (.imul, 1))  (h : WP E I d k n al (pc + 1) ls (.int (x * y) :: st) σ N M Q) : WP E I d k n al pc ls (.int y :: .int x :: st) σ N M Q := fun p e s m args below meth c H locs cells slots mc ms A lsr a b c1 c2 => lv_imul a.1 a.2.1 hd (h p e s m args below meth c H locs cells slots mc ms A lsr a b c1 c2)
theorem wp_iand {x y : Int32} (hd : decode I.1 pc = .ok (.iand, 1))  (h : WP E I d k n al (pc + 1) ls (.int (x &&& y) :: st) σ N M Q) : WP E I d k n al pc ls (.int y :: .int x :: st) σ N M Q := fun p e s m args below meth c H locs cells slots mc ms A lsr a b c1 c2 => lv_iand a.1 a.2.1 hd (h p e s m args below meth c H locs cells slots mc ms A lsr a b c1 c2)
theorem wp_ior {x y : Int32} (hd : decode I.1 pc = .ok (.ior, 1))  (h : WP E I d k n al (pc + 1) ls (.int (x ||| y) :: st) σ N M Q) : WP E I d k n al pc ls (.int y :: .int x :: st) σ N M Q := fun p e s m args below meth c H locs cells slots mc ms A lsr a b c1 c2 => lv_ior a.1 a.2.1 hd (h p e s m args below meth c H locs cells slots mc ms A lsr a b c1 c2)
theorem wp_ixor {x y : Int32} (hd : decode I.1 pc = .ok (.ixor, 1))  (h : WP E I d k n al (pc + 1) ls (.int (x ^^^ y) :: st) σ N M Q) : WP E I d k n al pc ls (.int y :: .int x :: st) σ N M Q := fun p e s m args below meth c H locs cells slots mc ms A lsr a b c1 c2 => lv_ixor a.1 a.2.1 hd (h p e s m args below meth c H locs cells slots mc ms A lsr a b c1 c2)
theorem wp_ishl {x y : Int32} (hd : decode I.1 pc = .ok (.ishl, 1))  (h : WP E I d k n al (pc + 1) ls (.int (x <<< (y &&& 31)) :: st) σ N M Q) : WP E I d k n al pc ls (.int y :: .int x :: st) σ N M Q := fun p e s m args below meth c H locs cells slots mc ms A lsr a b c1 c2 => lv_ishl a.1 a.2.1 hd (h p e s m args below meth c H locs cells slots mc ms A lsr a b c1 c2)
theorem wp_ishr {x y : Int32} (hd : decode I.1 pc = .ok (.ishr, 1))  (h : WP E I d k n al (pc + 1) ls (.int (x >>> (y &&& 31)) :: st) σ N M Q) : WP E I d k n al pc ls (.int y :: .int x :: st) σ N M Q := fun p e s m args below meth c H locs cells slots mc ms A lsr a b c1 c2 => lv_ishr a.1 a.2.1 hd (h p e s m args below meth c H locs cells slots mc ms A lsr a b c1 c2)
theorem wp_idiv {x y : Int32} (hd : decode I.1 pc = .ok (.idiv, 1)) (hne : ¬ y = 0) (h : WP E I d k n al (pc + 1) ls (.int (x / y) :: st) σ N M Q) : WP E I d k n al pc ls (.int y :: .int x :: st) σ N M Q := fun p e s m args below meth c H locs cells slots mc ms A lsr a b c1 c2 => lv_idiv a.1 a.2.1 hd hne (h p e s m args below meth c H locs cells slots mc ms A lsr a b c1 c2)
theorem wp_irem {x y : Int32} (hd : decode I.1 pc = .ok (.irem, 1)) (hne : ¬ y = 0) (h : WP E I d k n al (pc + 1) ls (.int (x - x / y * y) :: st) σ N M Q) : WP E I d k n al pc ls (.int y :: .int x :: st) σ N M Q := fun p e s m args below meth c H locs cells slots mc ms A lsr a b c1 c2 => lv_irem a.1 a.2.1 hd hne (h p e s m args below meth c H locs cells slots mc ms A lsr a b c1 c2)
theorem wp_ineg {x : Int32} (hd : decode I.1 pc = .ok (.ineg, 1))  (h : WP E I d k n al (pc + 1) ls (.int (-x) :: st) σ N M Q) : WP E I d k n al pc ls (.int x :: st) σ N M Q := fun p e s m args below meth c H locs cells slots mc ms A lsr a b c1 c2 => lv_ineg a.1 a.2.1 hd (h p e s m args below meth c H locs cells slots mc ms A lsr a b c1 c2)
theorem wp_iushr {x y v : Int32} (hd : decode I.1 pc = .ok (.iushr, 1)) (hv : (x.toUInt32 >>> (y.toUInt32 &&& Int32.toUInt32 31)).toInt32 = v) (h : WP E I d k n al (pc + 1) ls (.int v :: st) σ N M Q) : WP E I d k n al pc ls (.int y :: .int x :: st) σ N M Q := fun p e s m args below meth c H locs cells slots mc ms A lsr a b c1 c2 => lv_iushr a.1 a.2.1 hd hv (h p e s m args below meth c H locs cells slots mc ms A lsr a b c1 c2)
theorem wp_i2c {x v : Int32} (hd : decode I.1 pc = .ok (.i2c, 1)) (hv : (x.toUInt32 % 65536).toInt32 = v) (h : WP E I d k n al (pc + 1) ls (.int v :: st) σ N M Q) : WP E I d k n al pc ls (.int x :: st) σ N M Q := fun p e s m args below meth c H locs cells slots mc ms A lsr a b c1 c2 => lv_i2c a.1 a.2.1 hd hv (h p e s m args below meth c H locs cells slots mc ms A lsr a b c1 c2)
theorem wp_dup {v : Value} (hv : v.category = 1) (hd : decode I.1 pc = .ok (.dup, 1)) (h : WP E I d k n al (pc + 1) ls (v :: v :: st) σ N M Q) : WP E I d k n al pc ls (v :: st) σ N M Q := fun p e s m args below meth c H locs cells slots mc ms A lsr a b c1 c2 => lv_dup a.1 a.2.1 hd (by rw [cV_cat]; exact hv) (h p e s m args below meth c H locs cells slots mc ms A lsr a b c1 c2)
theorem wp_pop {v : Value} (hv : v.category = 1) (hd : decode I.1 pc = .ok (.pop, 1)) (h : WP E I d k n al (pc + 1) ls st σ N M Q) : WP E I d k n al pc ls (v :: st) σ N M Q := fun p e s m args below meth c H locs cells slots mc ms A lsr a b c1 c2 => lv_pop a.1 a.2.1 hd (by rw [cV_cat]; exact hv) (h p e s m args below meth c H locs cells slots mc ms A lsr a b c1 c2)
theorem wp_dup2 {v w : Value} (hv : v.category = 1) (hw : w.category = 1) (hd : decode I.1 pc = .ok (.dup2, 1)) (h : WP E I d k n al (pc + 1) ls (v :: w :: v :: w :: st) σ N M Q) : WP E I d k n al pc ls (v :: w :: st) σ N M Q := fun p e s m args below meth c H locs cells slots mc ms A lsr a b c1 c2 => lv_dup2_11 a.1 a.2.1 hd (by rw [cV_cat]; exact hv) (by rw [cV_cat]; exact hw) (h p e s m args below meth c H locs cells slots mc ms A lsr a b c1 c2)
theorem wp_goto {off : Int} {tgt : Nat} (hd : decode I.1 pc = .ok (.goto off, 3)) (ht : (pc : Int) + off = (tgt : Int)) (h : WP E I d k n al tgt ls st σ N M Q) : WP E I d k n al pc ls st σ N M Q := fun p e s m args below meth c H locs cells slots mc ms A lsr a b c1 c2 => lv_goto a.1 a.2.1 hd ht (h p e s m args below meth c H locs cells slots mc ms A lsr a b c1 c2)
theorem wp_if_eq {x : Int32} {off : Int} {tgt : Nat} (hd : decode I.1 pc = .ok (.ifCond .eq off, 3)) (ht : (pc : Int) + off = (tgt : Int)) (kt : x = 0 → WP E I d k n al tgt ls st σ N M Q) (kf : ¬ x = 0 → WP E I d k n al (pc + 3) ls st σ N M Q) : WP E I d k n al pc ls (.int x :: st) σ N M Q := fun p e s m args below meth c H locs cells slots mc ms A lsr a b c1 c2 => lv_if_eq a.1 a.2.1 hd ht (fun q => kt q p e s m args below meth c H locs cells slots mc ms A lsr a b c1 c2) (fun q => kf q p e s m args below meth c H locs cells slots mc ms A lsr a b c1 c2)
theorem wp_if_ne {x : Int32} {off : Int} {tgt : Nat} (hd : decode I.1 pc = .ok (.ifCond .ne off, 3)) (ht : (pc : Int) + off = (tgt : Int)) (kt : ¬ x = 0 → WP E I d k n al tgt ls st σ N M Q) (kf : x = 0 → WP E I d k n al (pc + 3) ls st σ N M Q) : WP E I d k n al pc ls (.int x :: st) σ N M Q := fun p e s m args below meth c H locs cells slots mc ms A lsr a b c1 c2 => lv_if_ne a.1 a.2.1 hd ht (fun q => kt q p e s m args below meth c H locs cells slots mc ms A lsr a b c1 c2) (fun q => kf q p e s m args below meth c H locs cells slots mc ms A lsr a b c1 c2)
theorem wp_if_lt {x : Int32} {off : Int} {tgt : Nat} (hd : decode I.1 pc = .ok (.ifCond .lt off, 3)) (ht : (pc : Int) + off = (tgt : Int)) (kt : x < 0 → WP E I d k n al tgt ls st σ N M Q) (kf : ¬ x < 0 → WP E I d k n al (pc + 3) ls st σ N M Q) : WP E I d k n al pc ls (.int x :: st) σ N M Q := fun p e s m args below meth c H locs cells slots mc ms A lsr a b c1 c2 => lv_if_lt a.1 a.2.1 hd ht (fun q => kt q p e s m args below meth c H locs cells slots mc ms A lsr a b c1 c2) (fun q => kf q p e s m args below meth c H locs cells slots mc ms A lsr a b c1 c2)
theorem wp_if_ge {x : Int32} {off : Int} {tgt : Nat} (hd : decode I.1 pc = .ok (.ifCond .ge off, 3)) (ht : (pc : Int) + off = (tgt : Int)) (kt : 0 ≤ x → WP E I d k n al tgt ls st σ N M Q) (kf : ¬ 0 ≤ x → WP E I d k n al (pc + 3) ls st σ N M Q) : WP E I d k n al pc ls (.int x :: st) σ N M Q := fun p e s m args below meth c H locs cells slots mc ms A lsr a b c1 c2 => lv_if_ge a.1 a.2.1 hd ht (fun q => kt q p e s m args below meth c H locs cells slots mc ms A lsr a b c1 c2) (fun q => kf q p e s m args below meth c H locs cells slots mc ms A lsr a b c1 c2)
theorem wp_if_gt {x : Int32} {off : Int} {tgt : Nat} (hd : decode I.1 pc = .ok (.ifCond .gt off, 3)) (ht : (pc : Int) + off = (tgt : Int)) (kt : 0 < x → WP E I d k n al tgt ls st σ N M Q) (kf : ¬ 0 < x → WP E I d k n al (pc + 3) ls st σ N M Q) : WP E I d k n al pc ls (.int x :: st) σ N M Q := fun p e s m args below meth c H locs cells slots mc ms A lsr a b c1 c2 => lv_if_gt a.1 a.2.1 hd ht (fun q => kt q p e s m args below meth c H locs cells slots mc ms A lsr a b c1 c2) (fun q => kf q p e s m args below meth c H locs cells slots mc ms A lsr a b c1 c2)
theorem wp_if_le {x : Int32} {off : Int} {tgt : Nat} (hd : decode I.1 pc = .ok (.ifCond .le off, 3)) (ht : (pc : Int) + off = (tgt : Int)) (kt : x ≤ 0 → WP E I d k n al tgt ls st σ N M Q) (kf : ¬ x ≤ 0 → WP E I d k n al (pc + 3) ls st σ N M Q) : WP E I d k n al pc ls (.int x :: st) σ N M Q := fun p e s m args below meth c H locs cells slots mc ms A lsr a b c1 c2 => lv_if_le a.1 a.2.1 hd ht (fun q => kt q p e s m args below meth c H locs cells slots mc ms A lsr a b c1 c2) (fun q => kf q p e s m args below meth c H locs cells slots mc ms A lsr a b c1 c2)
theorem wp_icmp_eq {x y : Int32} {off : Int} {tgt : Nat} (hd : decode I.1 pc = .ok (.if_icmp .eq off, 3)) (ht : (pc : Int) + off = (tgt : Int)) (kt : x = y → WP E I d k n al tgt ls st σ N M Q) (kf : ¬ x = y → WP E I d k n al (pc + 3) ls st σ N M Q) : WP E I d k n al pc ls (.int y :: .int x :: st) σ N M Q := fun p e s m args below meth c H locs cells slots mc ms A lsr a b c1 c2 => lv_icmp_eq a.1 a.2.1 hd ht (fun q => kt q p e s m args below meth c H locs cells slots mc ms A lsr a b c1 c2) (fun q => kf q p e s m args below meth c H locs cells slots mc ms A lsr a b c1 c2)
theorem wp_icmp_ne {x y : Int32} {off : Int} {tgt : Nat} (hd : decode I.1 pc = .ok (.if_icmp .ne off, 3)) (ht : (pc : Int) + off = (tgt : Int)) (kt : ¬ x = y → WP E I d k n al tgt ls st σ N M Q) (kf : x = y → WP E I d k n al (pc + 3) ls st σ N M Q) : WP E I d k n al pc ls (.int y :: .int x :: st) σ N M Q := fun p e s m args below meth c H locs cells slots mc ms A lsr a b c1 c2 => lv_icmp_ne a.1 a.2.1 hd ht (fun q => kt q p e s m args below meth c H locs cells slots mc ms A lsr a b c1 c2) (fun q => kf q p e s m args below meth c H locs cells slots mc ms A lsr a b c1 c2)
theorem wp_icmp_lt {x y : Int32} {off : Int} {tgt : Nat} (hd : decode I.1 pc = .ok (.if_icmp .lt off, 3)) (ht : (pc : Int) + off = (tgt : Int)) (kt : x < y → WP E I d k n al tgt ls st σ N M Q) (kf : ¬ x < y → WP E I d k n al (pc + 3) ls st σ N M Q) : WP E I d k n al pc ls (.int y :: .int x :: st) σ N M Q := fun p e s m args below meth c H locs cells slots mc ms A lsr a b c1 c2 => lv_icmp_lt a.1 a.2.1 hd ht (fun q => kt q p e s m args below meth c H locs cells slots mc ms A lsr a b c1 c2) (fun q => kf q p e s m args below meth c H locs cells slots mc ms A lsr a b c1 c2)
theorem wp_icmp_ge {x y : Int32} {off : Int} {tgt : Nat} (hd : decode I.1 pc = .ok (.if_icmp .ge off, 3)) (ht : (pc : Int) + off = (tgt : Int)) (kt : y ≤ x → WP E I d k n al tgt ls st σ N M Q) (kf : ¬ y ≤ x → WP E I d k n al (pc + 3) ls st σ N M Q) : WP E I d k n al pc ls (.int y :: .int x :: st) σ N M Q := fun p e s m args below meth c H locs cells slots mc ms A lsr a b c1 c2 => lv_icmp_ge a.1 a.2.1 hd ht (fun q => kt q p e s m args below meth c H locs cells slots mc ms A lsr a b c1 c2) (fun q => kf q p e s m args below meth c H locs cells slots mc ms A lsr a b c1 c2)
theorem wp_icmp_gt {x y : Int32} {off : Int} {tgt : Nat} (hd : decode I.1 pc = .ok (.if_icmp .gt off, 3)) (ht : (pc : Int) + off = (tgt : Int)) (kt : y < x → WP E I d k n al tgt ls st σ N M Q) (kf : ¬ y < x → WP E I d k n al (pc + 3) ls st σ N M Q) : WP E I d k n al pc ls (.int y :: .int x :: st) σ N M Q := fun p e s m args below meth c H locs cells slots mc ms A lsr a b c1 c2 => lv_icmp_gt a.1 a.2.1 hd ht (fun q => kt q p e s m args below meth c H locs cells slots mc ms A lsr a b c1 c2) (fun q => kf q p e s m args below meth c H locs cells slots mc ms A lsr a b c1 c2)
theorem wp_icmp_le {x y : Int32} {off : Int} {tgt : Nat} (hd : decode I.1 pc = .ok (.if_icmp .le off, 3)) (ht : (pc : Int) + off = (tgt : Int)) (kt : x ≤ y → WP E I d k n al tgt ls st σ N M Q) (kf : ¬ x ≤ y → WP E I d k n al (pc + 3) ls st σ N M Q) : WP E I d k n al pc ls (.int y :: .int x :: st) σ N M Q := fun p e s m args below meth c H locs cells slots mc ms A lsr a b c1 c2 => lv_icmp_le a.1 a.2.1 hd ht (fun q => kt q p e s m args below meth c H locs cells slots mc ms A lsr a b c1 c2) (fun q => kf q p e s m args below meth c H locs cells slots mc ms A lsr a b c1 c2)
theorem wp_ifnull {x : Nat} {off : Int} (hd : decode I.1 pc = .ok (.ifnull off, 3)) (h : WP E I d k n al (pc + 3) ls st σ N M Q) : WP E I d k n al pc ls (.ref x :: st) σ N M Q := fun p e s m args below meth c H locs cells slots mc ms A lsr a b c1 c2 => lv_ifnull a.1 a.2.1 hd (h p e s m args below meth c H locs cells slots mc ms A lsr a b c1 c2)
theorem wp_ifnullN {off : Int} {tgt : Nat} (hd : decode I.1 pc = .ok (.ifnull off, 3)) (ht : (pc : Int) + off = (tgt : Int)) (h : WP E I d k n al tgt ls st σ N M Q) : WP E I d k n al pc ls (.null :: st) σ N M Q := fun p e s m args below meth c H locs cells slots mc ms A lsr a b c1 c2 => lv_ifnullN a.1 a.2.1 hd ht (h p e s m args below meth c H locs cells slots mc ms A lsr a b c1 c2)
theorem wp_tableIn {dflt lo hi : Int} {offs : Array Int} {len : Nat} {x : Int32} {off : Int} {tgt : Nat} (hd : decode I.1 pc = .ok (.tableswitch dflt lo hi offs, len)) (h1 : ¬ x.toInt < lo) (h2 : ¬ hi < x.toInt) (ho : offs[(x.toInt - lo).toNat]? = some off) (ht : (pc : Int) + off = (tgt : Int)) (h : WP E I d k n al tgt ls st σ N M Q) : WP E I d k n al pc ls (.int x :: st) σ N M Q := fun p e s m args below meth c H locs cells slots mc ms A lsr a b c1 c2 => lv_tableIn a.1 a.2.1 hd h1 h2 ho ht (h p e s m args below meth c H locs cells slots mc ms A lsr a b c1 c2)
theorem wp_tableOut {dflt lo hi : Int} {offs : Array Int} {len : Nat} {x : Int32} {tgt : Nat} (hd : decode I.1 pc = .ok (.tableswitch dflt lo hi offs, len)) (h1 : x.toInt < lo ∨ hi < x.toInt) (ht : (pc : Int) + dflt = (tgt : Int)) (h : WP E I d k n al tgt ls st σ N M Q) : WP E I d k n al pc ls (.int x :: st) σ N M Q := fun p e s m args below meth c H locs cells slots mc ms A lsr a b c1 c2 => lv_tableOut a.1 a.2.1 hd h1 ht (h p e s m args below meth c H locs cells slots mc ms A lsr a b c1 c2)
theorem wp_get {r idx ci Nf : Nat} {fk : List (Option (Option Nat))} {C : String} {T : u_T} {x : Option (Option Nat)} {v : Value} (hd : decode I.1 pc = .ok (.getfield idx, 3)) (hσ : σ r = .inr (ci, fk)) (hr : r < N) (hc : vwCl[ci]? = some (C, T, Nf)) (hin : ∀ w ∈ u_ws C T Nf, w ∈ iW I) (j : Nat) (hj : j < Nf) (hlk : Cond.fieldLink (iO I) idx (T j).1 (T j).2.1 (T j).2.2.1 ∈ iW I) (hf : fk[j]? = some x) (hv : aF (M r) j x = v) (h : WP E I d k n al (pc + 3) ls (v :: st) σ N M Q) : WP E I d k n al pc ls (.ref r :: st) σ N M Q := fun p e s m args below meth c H locs cells slots mc ms A lsr a b c1 c2 => va_get (D := eD E) (cl := vwCl) (ci := ci) (C := C) (T := T) (N := Nf) (a := aE E r) (fs := fk.mapIdx (fun k x => cV E (aF (M r) k x))) (v := cV E v) (ref := (T j).1) (own := iO I) (index := idx) a.1 a.2.1 a.2.2.2.2.2.1 hin a.2.2.2.2.1 b.1 b.2.1 r (by rw [cW_get hr, hσ]; rfl) hc j hj (a.2.2.2.2.2.1 _ hlk) (fun _ h9 => h9) (by rw [List.getElem?_mapIdx, hf, ← hv]; rfl) hd (h p e s m args below meth c H locs cells slots mc ms A lsr a b c1 c2)
theorem mi_set (E : EN) (f : Nat → Int32) (fk : List (Option (Option Nat))) {j : Nat} (hf : fk[j]? = some none) (v : Int32) : (fk.mapIdx (fun k x => cV E (aF f k x))).set j (.int v) = fk.mapIdx (fun k x => cV E (aF (upd f j v) k x)) := by
  apply List.ext_getElem?
  intro i
  have hl : j < fk.length := (List.getElem?_eq_some_iff.mp hf).1
  by_cases h : j = i
  · subst h
    rw [List.getElem?_set_self (by simpa using hl), List.getElem?_mapIdx, hf]
    simp [aF, cV, upd]
  · rw [List.getElem?_set_ne h, List.getElem?_mapIdx, List.getElem?_mapIdx]
    cases hx : fk[i]? with
    | none => rfl
    | some x =>
      have e : upd f j v i = f i := if_neg (Ne.symm h)
      cases x <;> simp [aF, e]
theorem mi_setR (E : EN) (f : Nat → Int32) (fk : List (Option (Option Nat))) {j : Nat} (hl : j < fk.length) (r : Nat) : (fk.mapIdx (fun k x => cV E (aF f k x))).set j (.ref (aE E r)) = (fk.set j (some (some r))).mapIdx (fun k x => cV E (aF f k x)) := by
  apply List.ext_getElem?
  intro i
  by_cases h : j = i
  · subst h
    rw [List.getElem?_set_self (by simpa using hl), List.getElem?_mapIdx, List.getElem?_set_self hl]
    rfl
  · rw [List.getElem?_set_ne h, List.getElem?_mapIdx, List.getElem?_mapIdx, List.getElem?_set_ne h]
theorem um_sz {E : EN} {al : Bool} {H H1 : Heap} {N : Nat} (z : H1.size = H.size) (h : al = true → H.size = eB E + N) : al = true → H1.size = eB E + N := fun q => z.trans (h q)

theorem wp_put {r idx ci Nf : Nat} {fk : List (Option (Option Nat))} {C : String} {T : u_T} {v : Int32} {ty : FieldType} (ty0 : Nat → FieldType) (hty : ∀ k, k < Nf → parseFieldDescriptor (T k).2.2.1 = some (ty0 k)) (hnm : ∀ a, a < Nf → ∀ b, b < Nf → a ≠ b → (T a).2.1 ≠ (T b).2.1) (hσ : σ r = .inr (ci, fk)) (hr : r < N) (hc : vwCl[ci]? = some (C, T, Nf)) (hin : ∀ w ∈ u_ws C T Nf, w ∈ iW I) (j : Nat) (hj : j < Nf) (hlk : Cond.fieldLink (iO I) idx (T j).1 (T j).2.1 (T j).2.2.1 ∈ iW I) (hf : fk[j]? = some none) (hfin : (T j).2.2.2 = false) (hdt : parseFieldDescriptor (T j).2.2.1 = some ty) (hn : narrow ty (.int v) = .int v) (hfit : fits ty (.int v) = true) (hd : decode I.1 pc = .ok (.putfield idx, 3)) (h : ∀ M1, M1 = um M r (upd (M r) j v) → WP E I d k n al (pc + 3) ls st σ N M1 Q) : WP E I d k n al pc ls (.int v :: .ref r :: st) σ N M Q := by
  intro p e s m args below meth c H locs cells slots mc ms A lsr a b c1 c2
  obtain ⟨hx, hb, hml, hret, hown, hts, hlk2, hnam⟩ := id a
  obtain ⟨hK, hP, hD, hS0, hA, hlv, hSC, hN, hsz⟩ := b
  have he : (cW E σ N M)[r]? = some (aE E r, .inr (ci, fk.mapIdx (fun k x => cV E (aF (M r) k x)))) := by rw [cW_get hr, hσ]; rfl
  have hap := va_apart (own := iO I) hts hin ty0 hty hnm hK hc
  obtain ⟨rr, h1, cell, q1, q2, q3, q4⟩ := hP r _ he
  have hr' : rr = (C, T, Nf) := Option.some.inj (h1.symm.trans hc)
  subst hr'
  obtain ⟨hSl, hfc, kC, hkC, hkind⟩ := hK.1 ci _ hc
  obtain ⟨cf, kf, fi, f, hi, hsl⟩ := hSl j hj
  have hlay := hts _ (hin _ (u_in_lay hj))
  unfold u_lay at hlay
  rw [if_neg (by rw [hfin]; decide)] at hlay
  have hst := (u_facts hfc hkC (u_lays hts hin hj) hi).1
  have h6 := u_store hfc hkC hkind hlay hi hdt hn hfit
  refine W.putK hx hb (f := f) ⟨hown, hts _ hlk, ⟨_, _, _, hi⟩, hst⟩ (by rw [q2]; exact h6) q1 q3 (by rw [hsl]; exact k2_hasslot (q4 j hj)) rfl rfl hd fun H' e1 e2 e3 => ?_
  have hl9 : j < (fk.mapIdx (fun k x => cV E (aF (M r) k x))).length := by simpa using (List.getElem?_eq_some_iff.mp hf).1
  rw [hsl] at e1 ⊢
  have hP2 := hP.set hD he (e := .inr (ci, (fk.mapIdx (fun k x => cV E (aF (M r) k x))).set j (.int v))) ⟨_, hc, t_OB.to (V := updV (vp_V (fk.mapIdx (fun k x => cV E (aF (M r) k x)))) j (.int v)) ⟨_, e1, q2, q3, t_set q4 hap hj _⟩ (fun i _ => vp_updV_set hl9 _ i)⟩ e3
  have hD2 := hD.set (e := .inr (ci, (fk.mapIdx (fun k x => cV E (aF (M r) k x))).set j (.int v))) he
  have ew : (cW E σ N M).set r (aE E r, .inr (ci, (fk.mapIdx (fun k x => cV E (aF (M r) k x))).set j (.int v))) = cW E σ N (um M r (upd (M r) j v)) := by
    rw [mi_set E (M r) fk hf v]
    exact cW_set' _ (by rw [hσ]; rfl)
  rw [ew] at hP2 hD2
  exact h _ rfl p e s m args below meth c H' _ cells slots mc ms A lsr a ⟨hK, hP2, hD2, hS0.put e2 e3 (hD.2 r _ he), hA, hlv, hSC, hN, um_sz e2 hsz⟩ c1 c2
theorem wp_putF {r idx ci Nf : Nat} {fk : List (Option (Option Nat))} {C : String} {T : u_T} {r2 : Nat} {ty : FieldType} (ty0 : Nat → FieldType) (hty : ∀ k, k < Nf → parseFieldDescriptor (T k).2.2.1 = some (ty0 k)) (hnm : ∀ a, a < Nf → ∀ b, b < Nf → a ≠ b → (T a).2.1 ≠ (T b).2.1) (hσ : σ r = .inr (ci, fk)) (hr : r < N) (hc : vwCl[ci]? = some (C, T, Nf)) (hin : ∀ w ∈ u_ws C T Nf, w ∈ iW I) (j : Nat) (hj : j < Nf) (hlk : Cond.fieldLink (iO I) idx (T j).1 (T j).2.1 (T j).2.2.1 ∈ iW I) (hl : j < fk.length) (hfin : (T j).2.2.2 = true) (hin2 : (iY I).name = "<init>") (hdecl : (T j).1 = iO I) (hdt : parseFieldDescriptor (T j).2.2.1 = some ty) (hn : ∀ z : Nat, narrow ty (.ref z) = .ref z) (hfit : ∀ z : Nat, fits ty (.ref z) = true) (hd : decode I.1 pc = .ok (.putfield idx, 3)) (h : WP E I d k n al (pc + 3) ls st (us σ r (.inr (ci, fk.set j (some (some r2))))) N M Q) : WP E I d k n al pc ls (.ref r2 :: .ref r :: st) σ N M Q := by
  intro p e s m args below meth c H locs cells slots mc ms A lsr a b c1 c2
  obtain ⟨hx, hb, hml, hret, hown, hts, hlk2, hnam⟩ := id a
  obtain ⟨hK, hP, hD, hS0, hA, hlv, hSC, hN, hsz⟩ := b
  have he : (cW E σ N M)[r]? = some (aE E r, .inr (ci, fk.mapIdx (fun k x => cV E (aF (M r) k x)))) := by rw [cW_get hr, hσ]; rfl
  have hap := va_apart (own := iO I) hts hin ty0 hty hnm hK hc
  obtain ⟨rr, h1, cell, q1, q2, q3, q4⟩ := hP r _ he
  have hr' : rr = (C, T, Nf) := Option.some.inj (h1.symm.trans hc)
  subst hr'
  obtain ⟨hSl, hfc, kC, hkC, hkind⟩ := hK.1 ci _ hc
  obtain ⟨cf, kf, fi, f, hi, hsl⟩ := hSl j hj
  have hlay := hts _ (hin _ (u_in_lay hj))
  unfold u_lay at hlay
  rw [if_pos hfin] at hlay
  have hst := (u_facts hfc hkC (u_lays hts hin hj) hi).1
  have hcf : m.cls = cf := by
    obtain ⟨_, _, c', _, _, _, -, -, hf', -, -, -, hown2, -⟩ := Cond.laysFinal_spec hlay
    have e1 : c' = cf := by have := hi.symm.trans hf'; simp at this; exact this.1.symm
    rw [hdecl] at hown2
    rw [← e1]; exact Option.some.inj (hown.symm.trans hown2)
  have h6 := u_fits hfc hkC hkind (Or.inr hlay) hi hdt (hn (aE E r2)) (hfit (aE E r2))
  refine W.putFinK hx hb hown (hts _ hlk) hi hst hcf (hnam.trans hin2) (by rw [q2]; exact h6) q1 q3 (by rw [hsl]; exact k2_hasslot (q4 j hj)) rfl rfl hd fun H' e1 e2 e3 => ?_
  have hl9 : j < (fk.mapIdx (fun k x => cV E (aF (M r) k x))).length := by simpa using hl
  rw [hsl] at e1 ⊢
  have hP2 := hP.set hD he (e := .inr (ci, (fk.mapIdx (fun k x => cV E (aF (M r) k x))).set j (.ref (aE E r2)))) ⟨_, hc, t_OB.to (V := updV (vp_V (fk.mapIdx (fun k x => cV E (aF (M r) k x)))) j (.ref (aE E r2))) ⟨_, e1, q2, q3, t_set q4 hap hj _⟩ (fun i _ => vp_updV_set hl9 _ i)⟩ e3
  have hD2 := hD.set (e := .inr (ci, (fk.mapIdx (fun k x => cV E (aF (M r) k x))).set j (.ref (aE E r2)))) he
  have ew : (cW E σ N M).set r (aE E r, .inr (ci, (fk.mapIdx (fun k x => cV E (aF (M r) k x))).set j (.ref (aE E r2)))) = cW E (us σ r (.inr (ci, fk.set j (some (some r2))))) N M := by
    rw [mi_setR E (M r) fk hl r2]
    have := cW_set (E := E) (σ := σ) (N := N) (M := M) (k := r) (.inr (ci, fk.set j (some (some r2)))) (M r)
    rw [show um M r (M r) = M from by funext q; by_cases hq : q = r <;> simp [um, hq]] at this
    exact this
  rw [ew] at hP2 hD2
  exact h p e s m args below meth c H' _ cells slots mc ms A lsr a ⟨hK, hP2, hD2, hS0.put e2 e3 (hD.2 r _ he), hA, hlv, hSC, hN, um_sz e2 hsz⟩ c1 c2
theorem wp_iald {r nn : Nat} {i : Int32} (hσ : σ r = .inl (0, nn, false)) (hr : r < N) (hin : vp_in i nn) (hd : decode I.1 pc = .ok (.iaload, 1)) (h : WP E I d k n al (pc + 1) ls (.int (M r i.toNatClampNeg) :: st) σ N M Q) : WP E I d k n al pc ls (.int i :: .ref r :: st) σ N M Q := fun p e s m args below meth c H locs cells slots mc ms A lsr a b c1 c2 => va_iald (a := aE E r) (n := nn) (f := M r) a.1 a.2.1 b.1 b.2.1 r 0 (by rw [cW_get hr, hσ]; rfl) rfl hin hd (h p e s m args below meth c H locs cells slots mc ms A lsr a b c1 c2)
theorem wp_cald {r nn : Nat} {i : Int32} (hσ : σ r = .inl (1, nn, false)) (hr : r < N) (hin : vp_in i nn) (hd : decode I.1 pc = .ok (.caload, 1)) (h : WP E I d k n al (pc + 1) ls (.int (M r i.toNatClampNeg) :: st) σ N M Q) : WP E I d k n al pc ls (.int i :: .ref r :: st) σ N M Q := fun p e s m args below meth c H locs cells slots mc ms A lsr a b c1 c2 => va_cald (a := aE E r) (n := nn) (f := M r) a.1 a.2.1 b.1 b.2.1 r 1 (by rw [cW_get hr, hσ]; rfl) rfl hin hd (h p e s m args below meth c H locs cells slots mc ms A lsr a b c1 c2)
theorem wp_zald {r nn : Nat} {i : Int32} (hσ : σ r = .inl (2, nn, false)) (hr : r < N) (hin : vp_in i nn) (hd : decode I.1 pc = .ok (.baload, 1)) (h : WP E I d k n al (pc + 1) ls (.int (M r i.toNatClampNeg) :: st) σ N M Q) : WP E I d k n al pc ls (.int i :: .ref r :: st) σ N M Q := fun p e s m args below meth c H locs cells slots mc ms A lsr a b c1 c2 => va_zald (a := aE E r) (n := nn) (f := M r) a.1 a.2.1 b.1 b.2.1 r 2 (by rw [cW_get hr, hσ]; rfl) rfl hin hd (h p e s m args below meth c H locs cells slots mc ms A lsr a b c1 c2)
theorem wp_aald {r nn : Nat} {i : Int32} (hσ : σ r = .inl (3, nn, true)) (hr : r < N) (hin : vp_in i nn) (hd : decode I.1 pc = .ok (.aaload, 1)) (h : WP E I d k n al (pc + 1) ls (aR (M r i.toNatClampNeg) :: st) σ N M Q) : WP E I d k n al pc ls (.int i :: .ref r :: st) σ N M Q := fun p e s m args below meth c H locs cells slots mc ms A lsr a b c1 c2 => va_aldq (a := aE E r) (n := nn) (f := fun i => cR E (M r i)) a.1 a.2.1 b.1 b.2.1 r 3 (by rw [cW_get hr, hσ]; rfl) rfl hin hd (by have e9 : cV E (aR (M r i.toNatClampNeg)) = va_rf (cR E (M r i.toNatClampNeg)) := (by unfold aR cR; split <;> rfl); have h9 := h p e s m args below meth c H locs cells slots mc ms A lsr a b c1 c2; rw [List.map_cons, e9] at h9; exact h9)
theorem wp_alen {r nn t : Nat} {bb : Bool} {v : Int32} (hσ : σ r = .inl (t, nn, bb)) (hr : r < N) (ht : t < 4) (hv : Int32.ofNat nn = v) (hd : decode I.1 pc = .ok (.arraylength, 1)) (h : WP E I d k n al (pc + 1) ls (.int v :: st) σ N M Q) : WP E I d k n al pc ls (.ref r :: st) σ N M Q := by
  intro p e s m args below meth c H locs cells slots mc ms A lsr a b c1 c2
  have ht2 : ∃ ty, (eT E)[t]? = some (eC E t, ty) := by rcases (show t = 0 ∨ t = 1 ∨ t = 2 ∨ t = 3 by omega) with rfl | rfl | rfl | rfl <;> exact ⟨_, rfl⟩
  obtain ⟨ty, ht2⟩ := ht2
  cases bb
  · exact va_alen (a := aE E r) (x := (nn, .inl (M r))) a.1 a.2.1 b.1 b.2.1 r t (by rw [cW_get hr, hσ]; rfl) ht2 hv hd (h p e s m args below meth c H locs cells slots mc ms A lsr a b c1 c2)
  · exact va_alen (a := aE E r) (x := (nn, .inr (.inr (.inr (.inr (fun i => cR E (M r i))))))) a.1 a.2.1 b.1 b.2.1 r t (by rw [cW_get hr, hσ]; rfl) ht2 hv hd (h p e s m args below meth c H locs cells slots mc ms A lsr a b c1 c2)
theorem wp_iast {r nn : Nat} {i x : Int32} (hσ : σ r = .inl (0, nn, false)) (hr : r < N) (hin : vp_in i nn) (hd : decode I.1 pc = .ok (.iastore, 1)) (h : ∀ M1, M1 = um M r (upd (M r) i.toNatClampNeg x) → WP E I d k n al (pc + 1) ls st σ N M1 Q) : WP E I d k n al pc ls (.int x :: .int i :: .ref r :: st) σ N M Q := by
  intro p e s m args below meth c H locs cells slots mc ms A lsr a b c1 c2
  obtain ⟨hK, hP, hD, hS, hA, hlv, hSC, hN, hsz⟩ := b
  have he : (cW E σ N M)[r]? = some (aE E r, .inl (eC E 0, nn, .inl (M r))) := by rw [cW_get hr, hσ]; rfl
  refine W.iast a.1 a.2.1 (hP r _ he) ((hK.2 0 _ rfl).1 nn (fun j => .int (M r j))) (fun q => by cases q) (by show ¬ (i < 0 ∨ (arrV _ _ _).slots.size ≤ _); rw [arrV_size]; exact hin) rfl rfl hd fun H1 e1 z oq => ?_
  have hat : va_at (eD E) vwCl (aE E r, .inl (eC E 0, nn, .inl (upd (M r) i.toNatClampNeg x))) H1 := by
    show H1[aE E r]? = some (vp_cell _ _)
    rw [e1]
    rw [vp_cell_i, vp_cell_i, arrV_store]
    congr 2
    funext q
    by_cases hq : q = i.toNatClampNeg
    · subst hq
      simp [updV, upd, vp_nar]
      try rfl
    · simp [updV, upd, hq]
  have hP2 := hP.set hD he hat oq
  have hD2 := hD.set (e := .inl (eC E 0, nn, .inl (upd (M r) i.toNatClampNeg x))) he
  have ew : (cW E σ N M).set r (aE E r, .inl (eC E 0, nn, .inl (upd (M r) i.toNatClampNeg x))) = cW E σ N (um M r (upd (M r) i.toNatClampNeg x)) := cW_set' _ (by rw [hσ]; rfl)
  rw [ew] at hP2 hD2
  exact h _ rfl p e s m args below meth c H1 _ cells slots mc ms A lsr a ⟨hK, hP2, hD2, hS.put z oq (hD.2 r _ he), hA, hlv, hSC, hN, um_sz z hsz⟩ c1 c2
theorem wp_zast {r nn : Nat} {i x : Int32} (hσ : σ r = .inl (2, nn, false)) (hr : r < N) (hin : vp_in i nn) (hd : decode I.1 pc = .ok (.bastore, 1)) (h : ∀ M1, M1 = um M r (upd (M r) i.toNatClampNeg (vp_nar .boolean x)) → WP E I d k n al (pc + 1) ls st σ N M1 Q) : WP E I d k n al pc ls (.int x :: .int i :: .ref r :: st) σ N M Q := by
  intro p e s m args below meth c H locs cells slots mc ms A lsr a b c1 c2
  obtain ⟨hK, hP, hD, hS, hA, hlv, hSC, hN, hsz⟩ := b
  have he : (cW E σ N M)[r]? = some (aE E r, .inl (eC E 2, nn, .inl (M r))) := by rw [cW_get hr, hσ]; rfl
  refine W.zast a.1 a.2.1 (hP r _ he) ((hK.2 2 _ rfl).1 nn (fun j => .int (M r j))) (fun q => by cases q) (by show ¬ (i < 0 ∨ (arrV _ _ _).slots.size ≤ _); rw [arrV_size]; exact hin) rfl rfl hd fun H1 e1 z oq => ?_
  have hat : va_at (eD E) vwCl (aE E r, .inl (eC E 2, nn, .inl (upd (M r) i.toNatClampNeg (vp_nar .boolean x)))) H1 := by
    show H1[aE E r]? = some (vp_cell _ _)
    rw [e1]
    rw [vp_cell_i, vp_cell_i, arrV_store]
    congr 2
    funext q
    by_cases hq : q = i.toNatClampNeg
    · subst hq
      simp [updV, upd, vp_nar]
      try rfl
    · simp [updV, upd, hq]
  have hP2 := hP.set hD he hat oq
  have hD2 := hD.set (e := .inl (eC E 2, nn, .inl (upd (M r) i.toNatClampNeg (vp_nar .boolean x)))) he
  have ew : (cW E σ N M).set r (aE E r, .inl (eC E 2, nn, .inl (upd (M r) i.toNatClampNeg (vp_nar .boolean x)))) = cW E σ N (um M r (upd (M r) i.toNatClampNeg (vp_nar .boolean x))) := cW_set' _ (by rw [hσ]; rfl)
  rw [ew] at hP2 hD2
  exact h _ rfl p e s m args below meth c H1 _ cells slots mc ms A lsr a ⟨hK, hP2, hD2, hS.put z oq (hD.2 r _ he), hA, hlv, hSC, hN, um_sz z hsz⟩ c1 c2
theorem wp_cast {r nn : Nat} {i x : Int32} (hσ : σ r = .inl (1, nn, false)) (hr : r < N) (hin : vp_in i nn) (hd : decode I.1 pc = .ok (.castore, 1)) (h : ∀ M1, M1 = um M r (upd (M r) i.toNatClampNeg (vp_nar .char x)) → WP E I d k n al (pc + 1) ls st σ N M1 Q) : WP E I d k n al pc ls (.int x :: .int i :: .ref r :: st) σ N M Q := by
  intro p e s m args below meth c H locs cells slots mc ms A lsr a b c1 c2
  obtain ⟨hK, hP, hD, hS, hA, hlv, hSC, hN, hsz⟩ := b
  have he : (cW E σ N M)[r]? = some (aE E r, .inl (eC E 1, nn, .inl (M r))) := by rw [cW_get hr, hσ]; rfl
  refine W.cast a.1 a.2.1 (hP r _ he) ((hK.2 1 _ rfl).1 nn (fun j => .int (M r j))) (fun q => by cases q) (by show ¬ (i < 0 ∨ (arrV _ _ _).slots.size ≤ _); rw [arrV_size]; exact hin) rfl rfl hd fun H1 e1 z oq => ?_
  have hat : va_at (eD E) vwCl (aE E r, .inl (eC E 1, nn, .inl (upd (M r) i.toNatClampNeg (vp_nar .char x)))) H1 := by
    show H1[aE E r]? = some (vp_cell _ _)
    rw [e1]
    rw [vp_cell_i, vp_cell_i, arrV_store]
    congr 2
    funext q
    by_cases hq : q = i.toNatClampNeg
    · subst hq
      simp [updV, upd, vp_nar]
      try rfl
    · simp [updV, upd, hq]
  have hP2 := hP.set hD he hat oq
  have hD2 := hD.set (e := .inl (eC E 1, nn, .inl (upd (M r) i.toNatClampNeg (vp_nar .char x)))) he
  have ew : (cW E σ N M).set r (aE E r, .inl (eC E 1, nn, .inl (upd (M r) i.toNatClampNeg (vp_nar .char x)))) = cW E σ N (um M r (upd (M r) i.toNatClampNeg (vp_nar .char x))) := cW_set' _ (by rw [hσ]; rfl)
  rw [ew] at hP2 hD2
  exact h _ rfl p e s m args below meth c H1 _ cells slots mc ms A lsr a ⟨hK, hP2, hD2, hS.put z oq (hD.2 r _ he), hA, hlv, hSC, hN, um_sz z hsz⟩ c1 c2
theorem wp_aast {r nn v : Nat} {i : Int32} {fk : List (Option (Option Nat))} (hσ : σ r = .inl (3, nn, true)) (hr : r < N) (hσv : σ v = .inr (4, fk)) (hv : v < N) (hin : vp_in i nn) (hd : decode I.1 pc = .ok (.aastore, 1)) (h : ∀ M1, M1 = um M r (upd (M r) i.toNatClampNeg (nI v)) → WP E I d k n al (pc + 1) ls st σ N M1 Q) : WP E I d k n al pc ls (.ref v :: .int i :: .ref r :: st) σ N M Q := by
  intro p e s m args below meth c H locs cells slots mc ms A lsr a b c1 c2
  obtain ⟨hK, hP, hD, hS, hA, hlv, hSC, hN, hsz⟩ := b
  have he : (cW E σ N M)[r]? = some (aE E r, .inl (eC E 3, nn, .inr (.inr (.inr (.inr (fun i => cR E (M r i))))))) := by rw [cW_get hr, hσ]; rfl
  have hev : (cW E σ N M)[v]? = some (aE E v, .inr (4, fk.mapIdx (fun k x => cV E (aF (M v) k x)))) := by rw [cW_get hv, hσv]; rfl
  have hlt : i.toNatClampNeg < nn := Nat.not_le.mp fun q => hin (Or.inr q)
  have h0 : ¬ i < 0 := fun q => hin (Or.inl q)
  obtain ⟨r', hr', cellV, g1, g2, g3, -⟩ := hP v _ hev
  have hcls := (hK.1 4 (RX4, TX4, 7) rfl).2
  obtain ⟨kA, comp, k1, k2, k3, -⟩ := (hK.2 3 _ rfl).2
  have hcomp : comp = (eD E).1 4 := Option.some.inj (k3.symm.trans hcls.1)
  subst hcomp
  obtain ⟨kC, hkC, -⟩ := hcls.2
  refine W.aast a.1 a.2.1 (hP r _ he) (fun q h => by cases h) (fun h => by cases h) k1 k2 rfl hkC ⟨h0, by show _ < (arrV _ _ _).slots.size; rw [arrV_size]; exact hlt⟩ g1 (fun q h => by rw [g3] at h; cases h) (by rw [g2]; exact hkC) (by rw [g2]; exact va_assign hcls) rfl rfl hd fun H1 e1 z oq => ?_
  have hvc : cR E (nI v) = some (aE E v) := by
    unfold cR
    rw [if_neg (nI_pos (by omega)), nI_clamp (by omega)]
  have hat : va_at (eD E) vwCl (aE E r, .inl (eC E 3, nn, .inr (.inr (.inr (.inr (fun j => cR E (upd (M r) i.toNatClampNeg (nI v) j))))))) H1 := by
    show H1[aE E r]? = some (vp_cell _ _)
    rw [e1]
    rw [vp_cell_q, vp_cell_q, arrV_store]
    congr 2
    funext q
    by_cases hq : q = i.toNatClampNeg
    · subst hq
      simp [updV, upd, hvc, va_rf]
    · simp [updV, upd, hq]
  have hP2 := hP.set hD he hat oq
  have hD2 := hD.set (e := .inl (eC E 3, nn, .inr (.inr (.inr (.inr (fun j => cR E (upd (M r) i.toNatClampNeg (nI v) j))))))) he
  have ew : (cW E σ N M).set r (aE E r, .inl (eC E 3, nn, .inr (.inr (.inr (.inr (fun j => cR E (upd (M r) i.toNatClampNeg (nI v) j))))))) = cW E σ N (um M r (upd (M r) i.toNatClampNeg (nI v))) := cW_set' _ (by rw [hσ]; rfl)
  rw [ew] at hP2 hD2
  exact h _ rfl p e s m args below meth c H1 _ cells slots mc ms A lsr a ⟨hK, hP2, hD2, hS.put z oq (hD.2 r _ he), hA, hlv, hSC, hN, um_sz z hsz⟩ c1 c2
theorem wp_gets {idx : Nat} (j : Nat) (hj : j < 3) (hlk : Cond.fieldLink (iO I) idx RX6 (sn j) "[I" ∈ iW I) (hd : decode I.1 pc = .ok (.getstatic idx, 3)) (h : WP E I d k n al (pc + 3) ls (.ref (1000 + j) :: st) σ N M Q) : WP E I d k n al pc ls st σ N M Q := fun p e s m args below meth c H locs cells slots mc ms A lsr a b c1 c2 => va_gets a.1 a.2.1 (b.2.2.2.2.2.2.1.1 j hj).1 b.2.2.2.1 a.2.2.2.2.1 (a.2.2.2.2.2.1 _ hlk) (fun _ h9 => h9) hd (by have h9 := h p e s m args below meth c H locs cells slots mc ms A lsr a b c1 c2; have e9 : cV E (.ref (1000 + j)) = .ref (eS E j) := cV_st E j; rw [List.map_cons, e9] at h9; exact h9)
theorem wp_getsN (hO : iO I = RX4) (hd : decode I.1 pc = .ok (.getstatic 32, 3)) (h : WP E I d k n al (pc + 3) ls (.ref 1000 :: st) σ N M Q) : WP E I d k n al pc ls st σ N M Q := fun p e s m args below meth c H locs cells slots mc ms A lsr a b c1 c2 => va_getsN a.1 a.2.1 (b.2.2.2.2.2.2.1.1 0 (by decide)).1 b.2.2.2.1 a.2.2.2.2.1 (by rw [hO]; exact va_Nw.use rfl b.2.2.2.2.2.2.1.2.2) (fun _ h9 => h9) hd (by have h9 := h p e s m args below meth c H locs cells slots mc ms A lsr a b c1 c2; have e9 : cV E (.ref 1000) = .ref (eS E 0) := rfl; rw [List.map_cons, e9] at h9; exact h9)
theorem wp_tald {i : Int32} (j : Nat) (hj : j < 3) (hin : vp_in i 4) (hd : decode I.1 pc = .ok (.iaload, 1)) (h : WP E I d k n al (pc + 1) ls (.int (sv j i.toNatClampNeg) :: st) σ N M Q) : WP E I d k n al pc ls (.int i :: .ref (1000 + j) :: st) σ N M Q := fun p e s m args below meth c H locs cells slots mc ms A lsr a b c1 c2 => (by have e9 : cV E (.ref (1000 + j)) = .ref (eS E j) := cV_st E j; rw [List.map_cons, List.map_cons, e9]; exact va_ti a.1 a.2.1 (b.2.2.2.2.2.2.1.1 j hj).2 b.2.2.2.1 hin rfl hd (h p e s m args below meth c H locs cells slots mc ms A lsr a b c1 c2))
theorem wp_tlen (j : Nat) (hj : j < 3) (hd : decode I.1 pc = .ok (.arraylength, 1)) (h : WP E I d k n al (pc + 1) ls (.int 4 :: st) σ N M Q) : WP E I d k n al pc ls (.ref (1000 + j) :: st) σ N M Q := fun p e s m args below meth c H locs cells slots mc ms A lsr a b c1 c2 => (by have e9 : cV E (.ref (1000 + j)) = .ref (eS E j) := cV_st E j; rw [List.map_cons, e9]; exact va_tlen a.1 a.2.1 (b.2.2.2.2.2.2.1.1 j hj).2 b.2.2.2.1 (v := 4) rfl hd (h p e s m args below meth c H locs cells slots mc ms A lsr a b c1 c2))
theorem wp_topi {x : Int32} (h : ∀ y : Int32, y = x → WP E I d k n al pc ls (.int y :: st) σ N M Q) : WP E I d k n al pc ls (.int x :: st) σ N M Q := h x rfl
theorem wp_sub {ls' : List (Nat × Value)} (ks : List Nat) (hl : lv_pick ls ks = ls') (h : WP E I d k n al pc ls' st σ N M Q) : WP E I d k n al pc ls st σ N M Q := fun p e s m args below meth c H locs cells slots mc ms A lsr a b c1 c2 => h p e s m args below meth c H locs cells slots mc ms A lsr a ⟨b.1, b.2.1, b.2.2.1, b.2.2.2.1, b.2.2.2.2.1, ⟨b.2.2.2.2.2.1.1, b.2.2.2.2.2.1.2.1, fun q hq => (by obtain ⟨q', hq', rfl⟩ := List.mem_map.mp hq; rw [← hl] at hq'; obtain ⟨j, -, hj⟩ := List.mem_filterMap.mp hq'; exact b.2.2.2.2.2.1.2.2 _ (List.mem_map.mpr ⟨q', List.mem_of_getElem? hj, rfl⟩))⟩, b.2.2.2.2.2.2⟩ c1 c2
end WPR
