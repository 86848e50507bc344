/-! the law: rows of its layer (printed by wip/whole/gen/gencase.py) -/
def LWP (E : EN) (b L : Nat) (xs : Nat → Int32) (pc : Nat) (i : Int32) (st : List Value) (MC MM : Mem) : Prop :=
  ∀ (p : Program) (e : Env) (s : State) (m : MethodId) (below : List Frame) (meth : Method) (c : Code) (H : Heap) (locs : List Loc) (lsr : Array Slot),
    lw_At p s m meth c b L xs → LwS E s H locs → va_P (eD E) vwCl (cW E σC 46 MC) H → va_P (eD E) vwCl (cW (E2 E) σM 10 MM) H → lv_has lsr 4 [(0, .ref b), (1, .ref (eB E)), (2, .ref (eB E + 46)), (3, .int i)] →
    W p (eL E) e room_1 s m #[Value.ref b] below meth c H locs 600000 7302250 (lw_Z below #[Value.ref b] s) (F0 m pc lsr st)
section LWR
variable {E : EN} {b L : Nat} {xs : Nat → Int32} {pc : Nat} {i : Int32} {st : List Value} {MC MM : Mem}
theorem lp_iconst {z : Int} {v : Int32} (hd : decode code pc = .ok (.iconst z, 1)) (hv : Int32.ofInt z = v) (h : LWP E b L xs (pc + 1) i (.int v :: st) MC MM) : LWP E b L xs pc i st MC MM := fun p e s m below meth c H locs lsr a h0 h1 h2 hl => lv_iconst a.1 a.2.1 hd hv (h p e s m below meth c H locs lsr a h0 h1 h2 hl)
theorem lp_bipush {z : Int} {v : Int32} (hd : decode code pc = .ok (.bipush z, 2)) (hv : (Int8.ofInt z).toInt32 = v) (h : LWP E b L xs (pc + 2) i (.int v :: st) MC MM) : LWP E b L xs pc i st MC MM := fun p e s m below meth c H locs lsr a h0 h1 h2 hl => lv_bipush a.1 a.2.1 hd hv (h p e s m below meth c H locs lsr a h0 h1 h2 hl)
theorem lp_a0 (hd : decode code pc = .ok (.aload_n 0, 1)) (h : LWP E b L xs (pc + 1) i (.ref b :: st) MC MM) : LWP E b L xs pc i st MC MM := fun p e s m below meth c H locs lsr a h0 h1 h2 hl => lv_aload_n a.1 a.2.1 hd rfl (lv_at hl 0 rfl) (h p e s m below meth c H locs lsr a h0 h1 h2 hl)
theorem lp_a1 (hd : decode code pc = .ok (.aload_n 1, 1)) (h : LWP E b L xs (pc + 1) i (.ref (eB E) :: st) MC MM) : LWP E b L xs pc i st MC MM := fun p e s m below meth c H locs lsr a h0 h1 h2 hl => lv_aload_n a.1 a.2.1 hd rfl (lv_at hl 1 rfl) (h p e s m below meth c H locs lsr a h0 h1 h2 hl)
theorem lp_a2 (hd : decode code pc = .ok (.aload_n 2, 1)) (h : LWP E b L xs (pc + 1) i (.ref (eB E + 46) :: st) MC MM) : LWP E b L xs pc i st MC MM := fun p e s m below meth c H locs lsr a h0 h1 h2 hl => lv_aload_n a.1 a.2.1 hd rfl (lv_at hl 2 rfl) (h p e s m below meth c H locs lsr a h0 h1 h2 hl)
theorem lp_i3 (hd : decode code pc = .ok (.iload_n 3, 1)) (h : LWP E b L xs (pc + 1) i (.int i :: st) MC MM) : LWP E b L xs pc i st MC MM := fun p e s m below meth c H locs lsr a h0 h1 h2 hl => lv_iload_n a.1 a.2.1 hd rfl (lv_at hl 3 rfl) (h p e s m below meth c H locs lsr a h0 h1 h2 hl)
theorem lp_iadd {x y : Int32} (hd : decode code pc = .ok (.iadd, 1)) (h : LWP E b L xs (pc + 1) i (.int (x + y) :: st) MC MM) : LWP E b L xs pc i (.int y :: .int x :: st) MC MM := fun p e s m below meth c H locs lsr a h0 h1 h2 hl => lv_iadd a.1 a.2.1 hd (h p e s m below meth c H locs lsr a h0 h1 h2 hl)
theorem lp_isub {x y : Int32} (hd : decode code pc = .ok (.isub, 1)) (h : LWP E b L xs (pc + 1) i (.int (x - y) :: st) MC MM) : LWP E b L xs pc i (.int y :: .int x :: st) MC MM := fun p e s m below meth c H locs lsr a h0 h1 h2 hl => lv_isub a.1 a.2.1 hd (h p e s m below meth c H locs lsr a h0 h1 h2 hl)
theorem lp_iand {x y : Int32} (hd : decode code pc = .ok (.iand, 1)) (h : LWP E b L xs (pc + 1) i (.int (x &&& y) :: st) MC MM) : LWP E b L xs pc i (.int y :: .int x :: st) MC MM := fun p e s m below meth c H locs lsr a h0 h1 h2 hl => lv_iand a.1 a.2.1 hd (h p e s m below meth c H locs lsr a h0 h1 h2 hl)
theorem lp_i2c {x v : Int32} (hd : decode code pc = .ok (.i2c, 1)) (hv : (x.toUInt32 % 65536).toInt32 = v) (h : LWP E b L xs (pc + 1) i (.int v :: st) MC MM) : LWP E b L xs pc i (.int x :: st) MC MM := fun p e s m below meth c H locs lsr a h0 h1 h2 hl => lv_i2c a.1 a.2.1 hd hv (h p e s m below meth c H locs lsr a h0 h1 h2 hl)
theorem lp_goto {off : Int} {tgt : Nat} (hd : decode code pc = .ok (.goto off, 3)) (ht : (pc : Int) + off = (tgt : Int)) (h : LWP E b L xs tgt i st MC MM) : LWP E b L xs pc i st MC MM := fun p e s m below meth c H locs lsr a h0 h1 h2 hl => lv_goto a.1 a.2.1 hd ht (h p e s m below meth c H locs lsr a h0 h1 h2 hl)
theorem lp_ifeq {x : Int32} {off : Int} {tgt : Nat} (hd : decode code pc = .ok (.ifCond .eq off, 3)) (ht : (pc : Int) + off = (tgt : Int)) (kt : x = 0 → LWP E b L xs tgt i st MC MM) (kf : ¬ x = 0 → LWP E b L xs (pc + 3) i st MC MM) : LWP E b L xs pc i (.int x :: st) MC MM := fun p e s m below meth c H locs lsr a h0 h1 h2 hl => lv_if_eq a.1 a.2.1 hd ht (fun z => kt z p e s m below meth c H locs lsr a h0 h1 h2 hl) (fun z => kf z p e s m below meth c H locs lsr a h0 h1 h2 hl)
theorem lp_icmpeq {x y : Int32} {off : Int} {tgt : Nat} (hd : decode code pc = .ok (.if_icmp .eq off, 3)) (ht : (pc : Int) + off = (tgt : Int)) (kt : x = y → LWP E b L xs tgt i st MC MM) (kf : ¬ x = y → LWP E b L xs (pc + 3) i st MC MM) : LWP E b L xs pc i (.int y :: .int x :: st) MC MM := fun p e s m below meth c H locs lsr a h0 h1 h2 hl => lv_icmp_eq a.1 a.2.1 hd ht (fun z => kt z p e s m below meth c H locs lsr a h0 h1 h2 hl) (fun z => kf z p e s m below meth c H locs lsr a h0 h1 h2 hl)
theorem lp_icmpgt {x y : Int32} {off : Int} {tgt : Nat} (hd : decode code pc = .ok (.if_icmp .gt off, 3)) (ht : (pc : Int) + off = (tgt : Int)) (kt : y < x → LWP E b L xs tgt i st MC MM) (kf : ¬ y < x → LWP E b L xs (pc + 3) i st MC MM) : LWP E b L xs pc i (.int y :: .int x :: st) MC MM := fun p e s m below meth c H locs lsr a h0 h1 h2 hl => lv_icmp_gt a.1 a.2.1 hd ht (fun z => kt z p e s m below meth c H locs lsr a h0 h1 h2 hl) (fun z => kf z p e s m below meth c H locs lsr a h0 h1 h2 hl)
theorem lp_slen (hd : decode code pc = .ok (.arraylength, 1)) (h : LWP E b L xs (pc + 1) i (.int (Int32.ofNat L) :: st) MC MM) : LWP E b L xs pc i (.ref b :: st) MC MM := fun p e s m below meth c H locs lsr a h0 h1 h2 hl => va_slen a.1 a.2.1 a.2.2.2.2.2.2.1 a.2.2.2.2.2.2.2.1 (Nat.not_le.mpr a.2.2.2.2.2.2.2.1) h0.2.1 hd (h p e s m below meth c H locs lsr a h0 h1 h2 hl)
theorem lp_sld {j : Int32} (hin : vp_in j L) (hd : decode code pc = .ok (.iaload, 1)) (h : LWP E b L xs (pc + 1) i (.int (xs j.toNatClampNeg) :: st) MC MM) : LWP E b L xs pc i (.int j :: .ref b :: st) MC MM := fun p e s m below meth c H locs lsr a h0 h1 h2 hl => va_sld a.1 a.2.1 a.2.2.2.2.2.2.1 a.2.2.2.2.2.2.2.1 (Nat.not_le.mpr a.2.2.2.2.2.2.2.1) h0.2.1 hin hd (h p e s m below meth c H locs lsr a h0 h1 h2 hl)
theorem lp_iinc {v : Int32} (hd : decode code pc = .ok (.iinc 3 4, 3)) (hv : i + Int32.ofInt 4 = v) (h : LWP E b L xs (pc + 3) v st MC MM) : LWP E b L xs pc i st MC MM := fun p e s m below meth c H locs lsr a h0 h1 h2 hl => lv_iinc (lv' := [(3, .int v), (0, .ref b), (1, .ref (eB E)), (2, .ref (eB E + 46))]) a.1 a.2.1 hd hl (show ([(0, .ref b), (1, .ref (eB E)), (2, .ref (eB E + 46)), (3, .int i)] : List (Nat × Value))[3]? = some (3, .int i) from rfl) hv (by decide) rfl (fun ls' hl' => h p e s m below meth c H locs ls' a h0 h1 h2 (lv_sub hl' [1, 2, 3, 0] rfl))
theorem lp_tableIn {dflt lo hi : Int} {offs : Array Int} {len : Nat} {x : Int32} {off : Int} {tgt : Nat} (hd : decode code pc = .ok (.tableswitch dflt lo hi offs, len)) (q1 : ¬ x.toInt < lo) (q2 : ¬ hi < x.toInt) (ho : offs[(x.toInt - lo).toNat]? = some off) (ht : (pc : Int) + off = (tgt : Int)) (h : LWP E b L xs tgt i st MC MM) : LWP E b L xs pc i (.int x :: st) MC MM := fun p e s m below meth c H locs lsr a h0 h1 h2 hl => lv_tableIn a.1 a.2.1 hd q1 q2 ho ht (h p e s m below meth c H locs lsr a h0 h1 h2 hl)
theorem lp_tableOut {dflt lo hi : Int} {offs : Array Int} {len : Nat} {x : Int32} {tgt : Nat} (hd : decode code pc = .ok (.tableswitch dflt lo hi offs, len)) (q : x.toInt < lo ∨ hi < x.toInt) (ht : (pc : Int) + dflt = (tgt : Int)) (h : LWP E b L xs tgt i st MC MM) : LWP E b L xs pc i (.int x :: st) MC MM := fun p e s m below meth c H locs lsr a h0 h1 h2 hl => lv_tableOut a.1 a.2.1 hd q ht (h p e s m below meth c H locs lsr a h0 h1 h2 hl)
theorem lp_ret (hd : decode code pc = .ok (.ireturn, 1)) : LWP E b L xs pc i [.int 1] MC MM := fun p e s m below meth c H locs lsr a h0 h1 h2 hl => va_forget h0.2.1.2.2 (lw_ret a.1 a.2.1 a.2.2.1 a.2.2.2.2.2.2.2.2.1 hd)
theorem lp_callC {J : MI} {idx d' na : Nat} {As : List Value} {ws' : List Cond} {P : Int32 → Mem → Prop} {st0 : List Value} (hd' : d' ≤ 9) (hM : MW E J d' 0 0 false (.ref 0 :: As) σC 46 MC (qI σC 46 P)) (hG : GoodIn wsL_law (wsV RL idx (iO J) (iY J) (iW J))) (hJ : iW J = Cond.code (iY J) J.1 J.2.1 J.2.2.1 :: ws')
    (hy : (iY J).cls = iO J ∧ (iY J).cls ≠ "java/lang/invoke/MethodHandle" ∧ (iY J).cls ≠ "java/lang/invoke/VarHandle" ∧ (parseMethodDescriptor (iY J).desc).map (fun d => d.parameters.length) = some na) (hna : As.length = na) (hc : vwCl[6]? = some (iO J, TX6, 7)) (hmx : J.2.1 ≤ 13) (hst : (st.map fun v => v.category).sum ≤ 8) (hs0 : st0 = (As.map (cV E)).reverse ++ .ref (eB E) :: st)
    (hd : decode code pc = .ok (.invokevirtual idx, 3)) (kk : ∀ (x : Int32) (MC' : Mem), P x MC' → LWP E b L xs (pc + 3) i (.int x :: st) MC' MM) : LWP E b L xs pc i st0 MC MM := by
  intro p e s m below meth c H locs lsr a h0 h1 h2 hl
  have e0 : aE E 0 = eB E := aE_lt (by decide)
  refine law_callV (r := 0) (ci := 6) (st := st) a h0 h1 hl (by decide) hd' hM hG hJ hy hna rfl (by decide) hc hmx hst (by rw [e0]; exact hs0) (Nat.le_refl _) (Nat.le_refl _) hd (fun x M' H' locs' hx h' hP' hz hf => ?_)
  refine kk x M' hx p e s m below meth c H' locs' lsr a h' hP' (h2.kept (fun k q hk => ?_)) hl
  obtain ⟨k1, k2⟩ := cW_mem (q := q.1) (e := q.2) hk
  have hlt : q.1 < H.size := (h2 k q hk).lt
  refine hf q.1 hlt (fun z => ?_)
  rcases z with ⟨j, ee, hj⟩ | z
  · obtain ⟨j1, j2⟩ := cW_mem hj
    rw [aE_lt (by omega)] at j2 k2
    have : eB (E2 E) = eB E + 46 := rfl
    omega
  · omega
theorem lp_callM {J : MI} {idx d' na : Nat} {As : List Value} {ws' : List Cond} {P : Int32 → Mem → Prop} {st0 : List Value} (hd' : d' ≤ 9) (hM : MW (E2 E) J d' 0 0 false (.ref 0 :: As) σM 10 MM (qI σM 10 P)) (hG : GoodIn wsL_law (wsV RL idx (iO J) (iY J) (iW J))) (hJ : iW J = Cond.code (iY J) J.1 J.2.1 J.2.2.1 :: ws')
    (hy : (iY J).cls = iO J ∧ (iY J).cls ≠ "java/lang/invoke/MethodHandle" ∧ (iY J).cls ≠ "java/lang/invoke/VarHandle" ∧ (parseMethodDescriptor (iY J).desc).map (fun d => d.parameters.length) = some na) (hna : As.length = na) (hc : vwCl[7]? = some (iO J, TX7, 13)) (hmx : J.2.1 ≤ 13) (hst : (st.map fun v => v.category).sum ≤ 8) (hs0 : st0 = (As.map (cV (E2 E))).reverse ++ .ref (eB E + 46) :: st)
    (hd : decode code pc = .ok (.invokevirtual idx, 3)) (kk : ∀ (x : Int32) (MM' : Mem), P x MM' → LWP E b L xs (pc + 3) i (.int x :: st) MC MM') : LWP E b L xs pc i st0 MC MM := by
  intro p e s m below meth c H locs lsr a h0 h1 h2 hl
  have e0 : aE (E2 E) 0 = eB E + 46 := aE_lt (by decide)
  refine law_callV (E := E2 E) (r := 0) (ci := 7) (st := st) a h0.two h2 hl (by decide) hd' hM hG hJ hy hna rfl (by decide) hc hmx hst (by rw [e0]; exact hs0) (Nat.le_refl _) (Nat.le_refl _) hd (fun x M' H' locs' hx h' hP' hz hf => ?_)
  refine kk x M' hx p e s m below meth c H' locs' lsr a (h0.one h') (h1.kept (fun k q hk => ?_)) hP' hl
  obtain ⟨k1, k2⟩ := cW_mem (q := q.1) (e := q.2) hk
  have hlt : q.1 < H.size := (h1 k q hk).lt
  refine hf q.1 hlt (fun z => ?_)
  rcases z with ⟨j, ee, hj⟩ | z
  · obtain ⟨j1, j2⟩ := cW_mem hj
    rw [aE_lt (by omega)] at j2 k2
    have : eB (E2 E) = eB E + 46 := rfl
    omega
  · omega
end LWR
theorem i2c_nI (x : Int32) : ∃ c : Nat, c < 65536 ∧ (x.toUInt32 % 65536).toInt32 = nI c := by
  refine ⟨(x.toUInt32 % 65536).toNat, ?_, ?_⟩
  · rw [UInt32.toNat_mod]
    exact Nat.mod_lt _ (by decide)
  · generalize x.toUInt32 % 65536 = u
    apply Int32.toBitVec.inj
    show u.toBitVec = BitVec.ofNat 32 u.toNat
    apply BitVec.eq_of_toNat_eq
    rw [BitVec.toNat_ofNat]
    exact (Nat.mod_eq_of_lt u.toBitVec.isLt).symm

set_option maxHeartbeats 2000000 in
theorem lc_takeStrip {E : EN} {b L : Nat} {xs : Nat → Int32} {k : Nat} {MC MM : Mem} (hL : L ≤ 2048) (hk4 : 4 * k + 4 ≤ L) (h : REL MC MM) (hk : ∀ MC' MM' : Mem, REL MC' MM' → LWP E b L xs 649 (nI (4 * k)) [] MC' MM') : LWP E b L xs 132 (nI (4 * k)) [] MC MM := by
  have v1 : vp_in (nI (4 * k + 1)) L := vp_in_nI (by omega) (by omega)
  have v2 : vp_in (nI (4 * k + 2)) L := vp_in_nI (by omega) (by omega)
  have v3 : vp_in (nI (4 * k + 3)) L := vp_in_nI (by omega) (by omega)
  refine lp_a1 dL_law_132 ?_
  refine lp_callC (J := iX6_takeStrip) (As := []) (st := []) (by decide) (mw_X6_takeStrip (pr_takeStrip h)) gL_law_X6_takeStrip rfl hy_X6_takeStrip rfl rfl (by decide) (Nat.le_of_ble_eq_true rfl) rfl dL_law_133 (fun x MC' hx => ?_)
  refine lp_a2 dL_law_136 ?_
  refine lp_callM (J := iX7_takeStrip) (As := []) (st := [.int x]) (by decide) (mw_X7_takeStrip hx) gL_law_X7_takeStrip rfl hy_X7_takeStrip rfl rfl (by decide) (Nat.le_of_ble_eq_true rfl) rfl dL_law_137 (fun x' MM' hx' => ?_)
  obtain ⟨rfl, hr⟩ := hx'
  exact lp_icmpeq (tgt := 649) dL_law_140 (by decide) (fun _ => hk _ _ hr) (fun z => absurd rfl z)
set_option maxHeartbeats 2000000 in
theorem lc_setLength {E : EN} {b L : Nat} {xs : Nat → Int32} {k : Nat} {MC MM : Mem} (hL : L ≤ 2048) (hk4 : 4 * k + 4 ≤ L) (h : REL MC MM) (hk : ∀ MC' MM' : Mem, REL MC' MM' → LWP E b L xs 649 (nI (4 * k)) [] MC' MM') : LWP E b L xs 145 (nI (4 * k)) [] MC MM := by
  have v1 : vp_in (nI (4 * k + 1)) L := vp_in_nI (by omega) (by omega)
  have v2 : vp_in (nI (4 * k + 2)) L := vp_in_nI (by omega) (by omega)
  have v3 : vp_in (nI (4 * k + 3)) L := vp_in_nI (by omega) (by omega)
  refine lp_a1 dL_law_145 ?_
  refine lp_a0 dL_law_146 ?_
  refine lp_i3 dL_law_147 ?_
  refine lp_iconst (v := nI 1) dL_law_148 (by decide) ?_
  refine lp_iadd dL_law_149 ?_
  rw [show nI (4 * k) + nI 1 = nI (4 * k + 1) from nI_add _ _]
  refine lp_sld v1 dL_law_150 ?_
  rw [nI_clamp (show 4 * k + 1 < 2 ^ 31 by omega)]
  refine lp_a0 dL_law_151 ?_
  refine lp_i3 dL_law_152 ?_
  refine lp_iconst (v := nI 2) dL_law_153 (by decide) ?_
  refine lp_iadd dL_law_154 ?_
  rw [show nI (4 * k) + nI 2 = nI (4 * k + 2) from nI_add _ _]
  refine lp_sld v2 dL_law_155 ?_
  rw [nI_clamp (show 4 * k + 2 < 2 ^ 31 by omega)]
  refine lp_callC (J := iX6_setLength) (As := [.int (xs (4 * k + 1)), .int (xs (4 * k + 2))]) (st := []) (by decide) (mw_X6_setLength (pr_setLength h)) gL_law_X6_setLength rfl hy_X6_setLength rfl rfl (by decide) (Nat.le_of_ble_eq_true rfl) rfl dL_law_156 (fun x MC' hx => ?_)
  refine lp_a2 dL_law_159 ?_
  refine lp_a0 dL_law_160 ?_
  refine lp_i3 dL_law_161 ?_
  refine lp_iconst (v := nI 1) dL_law_162 (by decide) ?_
  refine lp_iadd dL_law_163 ?_
  rw [show nI (4 * k) + nI 1 = nI (4 * k + 1) from nI_add _ _]
  refine lp_sld v1 dL_law_164 ?_
  rw [nI_clamp (show 4 * k + 1 < 2 ^ 31 by omega)]
  refine lp_a0 dL_law_165 ?_
  refine lp_i3 dL_law_166 ?_
  refine lp_iconst (v := nI 2) dL_law_167 (by decide) ?_
  refine lp_iadd dL_law_168 ?_
  rw [show nI (4 * k) + nI 2 = nI (4 * k + 2) from nI_add _ _]
  refine lp_sld v2 dL_law_169 ?_
  rw [nI_clamp (show 4 * k + 2 < 2 ^ 31 by omega)]
  refine lp_callM (J := iX7_setLength) (As := [.int (xs (4 * k + 1)), .int (xs (4 * k + 2))]) (st := [.int x]) (by decide) (mw_X7_setLength hx) gL_law_X7_setLength rfl hy_X7_setLength rfl rfl (by decide) (Nat.le_of_ble_eq_true rfl) rfl dL_law_170 (fun x' MM' hx' => ?_)
  obtain ⟨rfl, hr⟩ := hx'
  exact lp_icmpeq (tgt := 649) dL_law_173 (by decide) (fun _ => hk _ _ hr) (fun z => absurd rfl z)
set_option maxHeartbeats 2000000 in
theorem lc_setUp {E : EN} {b L : Nat} {xs : Nat → Int32} {k : Nat} {MC MM : Mem} (hL : L ≤ 2048) (hk4 : 4 * k + 4 ≤ L) (h : REL MC MM) (hk : ∀ MC' MM' : Mem, REL MC' MM' → LWP E b L xs 649 (nI (4 * k)) [] MC' MM') : LWP E b L xs 178 (nI (4 * k)) [] MC MM := by
  have v1 : vp_in (nI (4 * k + 1)) L := vp_in_nI (by omega) (by omega)
  have v2 : vp_in (nI (4 * k + 2)) L := vp_in_nI (by omega) (by omega)
  have v3 : vp_in (nI (4 * k + 3)) L := vp_in_nI (by omega) (by omega)
  obtain ⟨ee, he, hz1, hz0⟩ : ∃ ee : Nat, ee ≤ 1 ∧ (xs (4 * k + 2) = 0 → ee = 0) ∧ (¬ xs (4 * k + 2) = 0 → ee = 1) := by
    by_cases c : xs (4 * k + 2) = 0
    · exact ⟨0, by decide, fun _ => rfl, fun z => absurd c z⟩
    · exact ⟨1, by decide, fun z => absurd z c, fun _ => rfl⟩
  refine lp_a1 dL_law_178 ?_
  refine lp_a0 dL_law_179 ?_
  refine lp_i3 dL_law_180 ?_
  refine lp_iconst (v := nI 1) dL_law_181 (by decide) ?_
  refine lp_iadd dL_law_182 ?_
  rw [show nI (4 * k) + nI 1 = nI (4 * k + 1) from nI_add _ _]
  refine lp_sld v1 dL_law_183 ?_
  rw [nI_clamp (show 4 * k + 1 < 2 ^ 31 by omega)]
  refine lp_a0 dL_law_184 ?_
  refine lp_i3 dL_law_185 ?_
  refine lp_iconst (v := nI 2) dL_law_186 (by decide) ?_
  refine lp_iadd dL_law_187 ?_
  rw [show nI (4 * k) + nI 2 = nI (4 * k + 2) from nI_add _ _]
  refine lp_sld v2 dL_law_188 ?_
  rw [nI_clamp (show 4 * k + 2 < 2 ^ 31 by omega)]
  suffices hb : LWP E b L xs 197 (nI (4 * k)) [.int (nI ee), .int (xs (4 * k + 1)), .ref (eB E)] MC MM by
    refine lp_ifeq (tgt := 196) dL_law_189 (by decide) (fun z => ?_) (fun z => ?_)
    · refine lp_iconst (v := nI 0) dL_law_196 (by decide) ?_
      rw [hz1 z] at hb
      exact hb
    · refine lp_iconst (v := nI 1) dL_law_192 (by decide) ?_
      refine lp_goto (tgt := 197) dL_law_193 (by decide) ?_
      rw [hz0 z] at hb
      exact hb
  refine lp_callC (J := iX6_setUp) (As := [.int (xs (4 * k + 1)), .int (nI ee)]) (st := []) (by decide) (mw_X6_setUp (pr_setUp he h)) gL_law_X6_setUp rfl hy_X6_setUp rfl rfl (by decide) (Nat.le_of_ble_eq_true rfl) rfl dL_law_197 (fun x MC' hx => ?_)
  refine lp_a2 dL_law_200 ?_
  refine lp_a0 dL_law_201 ?_
  refine lp_i3 dL_law_202 ?_
  refine lp_iconst (v := nI 1) dL_law_203 (by decide) ?_
  refine lp_iadd dL_law_204 ?_
  rw [show nI (4 * k) + nI 1 = nI (4 * k + 1) from nI_add _ _]
  refine lp_sld v1 dL_law_205 ?_
  rw [nI_clamp (show 4 * k + 1 < 2 ^ 31 by omega)]
  refine lp_a0 dL_law_206 ?_
  refine lp_i3 dL_law_207 ?_
  refine lp_iconst (v := nI 2) dL_law_208 (by decide) ?_
  refine lp_iadd dL_law_209 ?_
  rw [show nI (4 * k) + nI 2 = nI (4 * k + 2) from nI_add _ _]
  refine lp_sld v2 dL_law_210 ?_
  rw [nI_clamp (show 4 * k + 2 < 2 ^ 31 by omega)]
  suffices hb : LWP E b L xs 219 (nI (4 * k)) [.int (nI ee), .int (xs (4 * k + 1)), .ref (eB E + 46), .int x] MC' MM by
    refine lp_ifeq (tgt := 218) dL_law_211 (by decide) (fun z => ?_) (fun z => ?_)
    · refine lp_iconst (v := nI 0) dL_law_218 (by decide) ?_
      rw [hz1 z] at hb
      exact hb
    · refine lp_iconst (v := nI 1) dL_law_214 (by decide) ?_
      refine lp_goto (tgt := 219) dL_law_215 (by decide) ?_
      rw [hz0 z] at hb
      exact hb
  refine lp_callM (J := iX7_setUp) (As := [.int (xs (4 * k + 1)), .int (nI ee)]) (st := [.int x]) (by decide) (mw_X7_setUp hx) gL_law_X7_setUp rfl hy_X7_setUp rfl rfl (by decide) (Nat.le_of_ble_eq_true rfl) rfl dL_law_219 (fun x' MM' hx' => ?_)
  obtain ⟨rfl, hr⟩ := hx'
  exact lp_icmpeq (tgt := 649) dL_law_222 (by decide) (fun _ => hk _ _ hr) (fun z => absurd rfl z)
set_option maxHeartbeats 2000000 in
theorem lc_set {E : EN} {b L : Nat} {xs : Nat → Int32} {k : Nat} {MC MM : Mem} (hL : L ≤ 2048) (hk4 : 4 * k + 4 ≤ L) (h : REL MC MM) (hk : ∀ MC' MM' : Mem, REL MC' MM' → LWP E b L xs 649 (nI (4 * k)) [] MC' MM') : LWP E b L xs 227 (nI (4 * k)) [] MC MM := by
  have v1 : vp_in (nI (4 * k + 1)) L := vp_in_nI (by omega) (by omega)
  have v2 : vp_in (nI (4 * k + 2)) L := vp_in_nI (by omega) (by omega)
  have v3 : vp_in (nI (4 * k + 3)) L := vp_in_nI (by omega) (by omega)
  refine lp_a1 dL_law_227 ?_
  refine lp_a0 dL_law_228 ?_
  refine lp_i3 dL_law_229 ?_
  refine lp_iconst (v := nI 1) dL_law_230 (by decide) ?_
  refine lp_iadd dL_law_231 ?_
  rw [show nI (4 * k) + nI 1 = nI (4 * k + 1) from nI_add _ _]
  refine lp_sld v1 dL_law_232 ?_
  rw [nI_clamp (show 4 * k + 1 < 2 ^ 31 by omega)]
  refine lp_a0 dL_law_233 ?_
  refine lp_i3 dL_law_234 ?_
  refine lp_iconst (v := nI 2) dL_law_235 (by decide) ?_
  refine lp_iadd dL_law_236 ?_
  rw [show nI (4 * k) + nI 2 = nI (4 * k + 2) from nI_add _ _]
  refine lp_sld v2 dL_law_237 ?_
  rw [nI_clamp (show 4 * k + 2 < 2 ^ 31 by omega)]
  refine lp_callC (J := iX6_set) (As := [.int (xs (4 * k + 1)), .int (xs (4 * k + 2))]) (st := []) (by decide) (mw_X6_set (pr_set h)) gL_law_X6_set rfl hy_X6_set rfl rfl (by decide) (Nat.le_of_ble_eq_true rfl) rfl dL_law_238 (fun x MC' hx => ?_)
  refine lp_a2 dL_law_241 ?_
  refine lp_a0 dL_law_242 ?_
  refine lp_i3 dL_law_243 ?_
  refine lp_iconst (v := nI 1) dL_law_244 (by decide) ?_
  refine lp_iadd dL_law_245 ?_
  rw [show nI (4 * k) + nI 1 = nI (4 * k + 1) from nI_add _ _]
  refine lp_sld v1 dL_law_246 ?_
  rw [nI_clamp (show 4 * k + 1 < 2 ^ 31 by omega)]
  refine lp_a0 dL_law_247 ?_
  refine lp_i3 dL_law_248 ?_
  refine lp_iconst (v := nI 2) dL_law_249 (by decide) ?_
  refine lp_iadd dL_law_250 ?_
  rw [show nI (4 * k) + nI 2 = nI (4 * k + 2) from nI_add _ _]
  refine lp_sld v2 dL_law_251 ?_
  rw [nI_clamp (show 4 * k + 2 < 2 ^ 31 by omega)]
  refine lp_callM (J := iX7_set) (As := [.int (xs (4 * k + 1)), .int (xs (4 * k + 2))]) (st := [.int x]) (by decide) (mw_X7_set hx) gL_law_X7_set rfl hy_X7_set rfl rfl (by decide) (Nat.le_of_ble_eq_true rfl) rfl dL_law_252 (fun x' MM' hx' => ?_)
  obtain ⟨rfl, hr⟩ := hx'
  exact lp_icmpeq (tgt := 649) dL_law_255 (by decide) (fun _ => hk _ _ hr) (fun z => absurd rfl z)
set_option maxHeartbeats 2000000 in
theorem lc_layOver {E : EN} {b L : Nat} {xs : Nat → Int32} {k : Nat} {MC MM : Mem} (hL : L ≤ 2048) (hk4 : 4 * k + 4 ≤ L) (h : REL MC MM) (hk : ∀ MC' MM' : Mem, REL MC' MM' → LWP E b L xs 649 (nI (4 * k)) [] MC' MM') : LWP E b L xs 260 (nI (4 * k)) [] MC MM := by
  have v1 : vp_in (nI (4 * k + 1)) L := vp_in_nI (by omega) (by omega)
  have v2 : vp_in (nI (4 * k + 2)) L := vp_in_nI (by omega) (by omega)
  have v3 : vp_in (nI (4 * k + 3)) L := vp_in_nI (by omega) (by omega)
  refine lp_a1 dL_law_260 ?_
  refine lp_callC (J := iX6_layOver) (As := []) (st := []) (by decide) (mw_X6_layOver (pr_layOver h)) gL_law_X6_layOver rfl hy_X6_layOver rfl rfl (by decide) (Nat.le_of_ble_eq_true rfl) rfl dL_law_261 (fun x MC' hx => ?_)
  refine lp_a2 dL_law_264 ?_
  refine lp_callM (J := iX7_layOver) (As := []) (st := [.int x]) (by decide) (mw_X7_layOver hx) gL_law_X7_layOver rfl hy_X7_layOver rfl rfl (by decide) (Nat.le_of_ble_eq_true rfl) rfl dL_law_265 (fun x' MM' hx' => ?_)
  obtain ⟨rfl, hr⟩ := hx'
  exact lp_icmpeq (tgt := 649) dL_law_268 (by decide) (fun _ => hk _ _ hr) (fun z => absurd rfl z)
set_option maxHeartbeats 2000000 in
theorem lc_bend {E : EN} {b L : Nat} {xs : Nat → Int32} {k : Nat} {MC MM : Mem} (hL : L ≤ 2048) (hk4 : 4 * k + 4 ≤ L) (h : REL MC MM) (hk : ∀ MC' MM' : Mem, REL MC' MM' → LWP E b L xs 649 (nI (4 * k)) [] MC' MM') : LWP E b L xs 273 (nI (4 * k)) [] MC MM := by
  have v1 : vp_in (nI (4 * k + 1)) L := vp_in_nI (by omega) (by omega)
  have v2 : vp_in (nI (4 * k + 2)) L := vp_in_nI (by omega) (by omega)
  have v3 : vp_in (nI (4 * k + 3)) L := vp_in_nI (by omega) (by omega)
  refine lp_a1 dL_law_273 ?_
  refine lp_a0 dL_law_274 ?_
  refine lp_i3 dL_law_275 ?_
  refine lp_iconst (v := nI 1) dL_law_276 (by decide) ?_
  refine lp_iadd dL_law_277 ?_
  rw [show nI (4 * k) + nI 1 = nI (4 * k + 1) from nI_add _ _]
  refine lp_sld v1 dL_law_278 ?_
  rw [nI_clamp (show 4 * k + 1 < 2 ^ 31 by omega)]
  refine lp_callC (J := iX6_bend) (As := [.int (xs (4 * k + 1))]) (st := []) (by decide) (mw_X6_bend (pr_bend h)) gL_law_X6_bend rfl hy_X6_bend rfl rfl (by decide) (Nat.le_of_ble_eq_true rfl) rfl dL_law_279 (fun x MC' hx => ?_)
  refine lp_a2 dL_law_282 ?_
  refine lp_a0 dL_law_283 ?_
  refine lp_i3 dL_law_284 ?_
  refine lp_iconst (v := nI 1) dL_law_285 (by decide) ?_
  refine lp_iadd dL_law_286 ?_
  rw [show nI (4 * k) + nI 1 = nI (4 * k + 1) from nI_add _ _]
  refine lp_sld v1 dL_law_287 ?_
  rw [nI_clamp (show 4 * k + 1 < 2 ^ 31 by omega)]
  refine lp_callM (J := iX7_bend) (As := [.int (xs (4 * k + 1))]) (st := [.int x]) (by decide) (mw_X7_bend hx) gL_law_X7_bend rfl hy_X7_bend rfl rfl (by decide) (Nat.le_of_ble_eq_true rfl) rfl dL_law_288 (fun x' MM' hx' => ?_)
  obtain ⟨rfl, hr⟩ := hx'
  exact lp_icmpeq (tgt := 649) dL_law_291 (by decide) (fun _ => hk _ _ hr) (fun z => absurd rfl z)
set_option maxHeartbeats 2000000 in
theorem lc_flatten {E : EN} {b L : Nat} {xs : Nat → Int32} {k : Nat} {MC MM : Mem} (hL : L ≤ 2048) (hk4 : 4 * k + 4 ≤ L) (h : REL MC MM) (hk : ∀ MC' MM' : Mem, REL MC' MM' → LWP E b L xs 649 (nI (4 * k)) [] MC' MM') : LWP E b L xs 296 (nI (4 * k)) [] MC MM := by
  have v1 : vp_in (nI (4 * k + 1)) L := vp_in_nI (by omega) (by omega)
  have v2 : vp_in (nI (4 * k + 2)) L := vp_in_nI (by omega) (by omega)
  have v3 : vp_in (nI (4 * k + 3)) L := vp_in_nI (by omega) (by omega)
  refine lp_a1 dL_law_296 ?_
  refine lp_a0 dL_law_297 ?_
  refine lp_i3 dL_law_298 ?_
  refine lp_iconst (v := nI 1) dL_law_299 (by decide) ?_
  refine lp_iadd dL_law_300 ?_
  rw [show nI (4 * k) + nI 1 = nI (4 * k + 1) from nI_add _ _]
  refine lp_sld v1 dL_law_301 ?_
  rw [nI_clamp (show 4 * k + 1 < 2 ^ 31 by omega)]
  refine lp_callC (J := iX6_flatten) (As := [.int (xs (4 * k + 1))]) (st := []) (by decide) (mw_X6_flatten (pr_flatten h)) gL_law_X6_flatten rfl hy_X6_flatten rfl rfl (by decide) (Nat.le_of_ble_eq_true rfl) rfl dL_law_302 (fun x MC' hx => ?_)
  refine lp_a2 dL_law_305 ?_
  refine lp_a0 dL_law_306 ?_
  refine lp_i3 dL_law_307 ?_
  refine lp_iconst (v := nI 1) dL_law_308 (by decide) ?_
  refine lp_iadd dL_law_309 ?_
  rw [show nI (4 * k) + nI 1 = nI (4 * k + 1) from nI_add _ _]
  refine lp_sld v1 dL_law_310 ?_
  rw [nI_clamp (show 4 * k + 1 < 2 ^ 31 by omega)]
  refine lp_callM (J := iX7_flatten) (As := [.int (xs (4 * k + 1))]) (st := [.int x]) (by decide) (mw_X7_flatten hx) gL_law_X7_flatten rfl hy_X7_flatten rfl rfl (by decide) (Nat.le_of_ble_eq_true rfl) rfl dL_law_311 (fun x' MM' hx' => ?_)
  obtain ⟨rfl, hr⟩ := hx'
  exact lp_icmpeq (tgt := 649) dL_law_314 (by decide) (fun _ => hk _ _ hr) (fun z => absurd rfl z)
set_option maxHeartbeats 2000000 in
theorem lc_follow {E : EN} {b L : Nat} {xs : Nat → Int32} {k : Nat} {MC MM : Mem} (hL : L ≤ 2048) (hk4 : 4 * k + 4 ≤ L) (h : REL MC MM) (hk : ∀ MC' MM' : Mem, REL MC' MM' → LWP E b L xs 649 (nI (4 * k)) [] MC' MM') : LWP E b L xs 319 (nI (4 * k)) [] MC MM := by
  have v1 : vp_in (nI (4 * k + 1)) L := vp_in_nI (by omega) (by omega)
  have v2 : vp_in (nI (4 * k + 2)) L := vp_in_nI (by omega) (by omega)
  have v3 : vp_in (nI (4 * k + 3)) L := vp_in_nI (by omega) (by omega)
  refine lp_a1 dL_law_319 ?_
  refine lp_a0 dL_law_320 ?_
  refine lp_i3 dL_law_321 ?_
  refine lp_iconst (v := nI 1) dL_law_322 (by decide) ?_
  refine lp_iadd dL_law_323 ?_
  rw [show nI (4 * k) + nI 1 = nI (4 * k + 1) from nI_add _ _]
  refine lp_sld v1 dL_law_324 ?_
  rw [nI_clamp (show 4 * k + 1 < 2 ^ 31 by omega)]
  refine lp_callC (J := iX6_follow) (As := [.int (xs (4 * k + 1))]) (st := []) (by decide) (mw_X6_follow (pr_follow h)) gL_law_X6_follow rfl hy_X6_follow rfl rfl (by decide) (Nat.le_of_ble_eq_true rfl) rfl dL_law_325 (fun x MC' hx => ?_)
  refine lp_a2 dL_law_328 ?_
  refine lp_a0 dL_law_329 ?_
  refine lp_i3 dL_law_330 ?_
  refine lp_iconst (v := nI 1) dL_law_331 (by decide) ?_
  refine lp_iadd dL_law_332 ?_
  rw [show nI (4 * k) + nI 1 = nI (4 * k + 1) from nI_add _ _]
  refine lp_sld v1 dL_law_333 ?_
  rw [nI_clamp (show 4 * k + 1 < 2 ^ 31 by omega)]
  refine lp_callM (J := iX7_follow) (As := [.int (xs (4 * k + 1))]) (st := [.int x]) (by decide) (mw_X7_follow hx) gL_law_X7_follow rfl hy_X7_follow rfl rfl (by decide) (Nat.le_of_ble_eq_true rfl) rfl dL_law_334 (fun x' MM' hx' => ?_)
  obtain ⟨rfl, hr⟩ := hx'
  exact lp_icmpeq (tgt := 649) dL_law_337 (by decide) (fun _ => hk _ _ hr) (fun z => absurd rfl z)
set_option maxHeartbeats 2000000 in
theorem lc_type {E : EN} {b L : Nat} {xs : Nat → Int32} {k : Nat} {MC MM : Mem} (hL : L ≤ 2048) (hk4 : 4 * k + 4 ≤ L) (h : REL MC MM) (hk : ∀ MC' MM' : Mem, REL MC' MM' → LWP E b L xs 649 (nI (4 * k)) [] MC' MM') : LWP E b L xs 342 (nI (4 * k)) [] MC MM := by
  have v1 : vp_in (nI (4 * k + 1)) L := vp_in_nI (by omega) (by omega)
  have v2 : vp_in (nI (4 * k + 2)) L := vp_in_nI (by omega) (by omega)
  have v3 : vp_in (nI (4 * k + 3)) L := vp_in_nI (by omega) (by omega)
  obtain ⟨cc, hc, ecc⟩ := i2c_nI (xs (4 * k + 1))
  refine lp_a1 dL_law_342 ?_
  refine lp_a0 dL_law_343 ?_
  refine lp_i3 dL_law_344 ?_
  refine lp_iconst (v := nI 1) dL_law_345 (by decide) ?_
  refine lp_iadd dL_law_346 ?_
  rw [show nI (4 * k) + nI 1 = nI (4 * k + 1) from nI_add _ _]
  refine lp_sld v1 dL_law_347 ?_
  rw [nI_clamp (show 4 * k + 1 < 2 ^ 31 by omega)]
  refine lp_i2c dL_law_348 ecc ?_
  refine lp_callC (J := iX6_type) (As := [.int (nI cc)]) (st := []) (by decide) (mw_X6_type (pr_type hc h)) gL_law_X6_type rfl hy_X6_type rfl rfl (by decide) (Nat.le_of_ble_eq_true rfl) rfl dL_law_349 (fun x MC' hx => ?_)
  refine lp_a2 dL_law_352 ?_
  refine lp_a0 dL_law_353 ?_
  refine lp_i3 dL_law_354 ?_
  refine lp_iconst (v := nI 1) dL_law_355 (by decide) ?_
  refine lp_iadd dL_law_356 ?_
  rw [show nI (4 * k) + nI 1 = nI (4 * k + 1) from nI_add _ _]
  refine lp_sld v1 dL_law_357 ?_
  rw [nI_clamp (show 4 * k + 1 < 2 ^ 31 by omega)]
  refine lp_i2c dL_law_358 ecc ?_
  refine lp_callM (J := iX7_type) (As := [.int (nI cc)]) (st := [.int x]) (by decide) (mw_X7_type hx) gL_law_X7_type rfl hy_X7_type rfl rfl (by decide) (Nat.le_of_ble_eq_true rfl) rfl dL_law_359 (fun x' MM' hx' => ?_)
  obtain ⟨rfl, hr⟩ := hx'
  exact lp_icmpeq (tgt := 649) dL_law_362 (by decide) (fun _ => hk _ _ hr) (fun z => absurd rfl z)
set_option maxHeartbeats 2000000 in
theorem lc_clearText {E : EN} {b L : Nat} {xs : Nat → Int32} {k : Nat} {MC MM : Mem} (hL : L ≤ 2048) (hk4 : 4 * k + 4 ≤ L) (h : REL MC MM) (hk : ∀ MC' MM' : Mem, REL MC' MM' → LWP E b L xs 649 (nI (4 * k)) [] MC' MM') : LWP E b L xs 367 (nI (4 * k)) [] MC MM := by
  have v1 : vp_in (nI (4 * k + 1)) L := vp_in_nI (by omega) (by omega)
  have v2 : vp_in (nI (4 * k + 2)) L := vp_in_nI (by omega) (by omega)
  have v3 : vp_in (nI (4 * k + 3)) L := vp_in_nI (by omega) (by omega)
  refine lp_a1 dL_law_367 ?_
  refine lp_callC (J := iX6_clearText) (As := []) (st := []) (by decide) (mw_X6_clearText (pr_clearText h)) gL_law_X6_clearText rfl hy_X6_clearText rfl rfl (by decide) (Nat.le_of_ble_eq_true rfl) rfl dL_law_368 (fun x MC' hx => ?_)
  refine lp_a2 dL_law_371 ?_
  refine lp_callM (J := iX7_clearText) (As := []) (st := [.int x]) (by decide) (mw_X7_clearText hx) gL_law_X7_clearText rfl hy_X7_clearText rfl rfl (by decide) (Nat.le_of_ble_eq_true rfl) rfl dL_law_372 (fun x' MM' hx' => ?_)
  obtain ⟨rfl, hr⟩ := hx'
  exact lp_icmpeq (tgt := 649) dL_law_375 (by decide) (fun _ => hk _ _ hr) (fun z => absurd rfl z)
set_option maxHeartbeats 2000000 in
theorem lc_undo {E : EN} {b L : Nat} {xs : Nat → Int32} {k : Nat} {MC MM : Mem} (hL : L ≤ 2048) (hk4 : 4 * k + 4 ≤ L) (h : REL MC MM) (hk : ∀ MC' MM' : Mem, REL MC' MM' → LWP E b L xs 649 (nI (4 * k)) [] MC' MM') : LWP E b L xs 380 (nI (4 * k)) [] MC MM := by
  have v1 : vp_in (nI (4 * k + 1)) L := vp_in_nI (by omega) (by omega)
  have v2 : vp_in (nI (4 * k + 2)) L := vp_in_nI (by omega) (by omega)
  have v3 : vp_in (nI (4 * k + 3)) L := vp_in_nI (by omega) (by omega)
  refine lp_a1 dL_law_380 ?_
  refine lp_callC (J := iX6_undo) (As := []) (st := []) (by decide) (mw_X6_undo (pr_undo h)) gL_law_X6_undo rfl hy_X6_undo rfl rfl (by decide) (Nat.le_of_ble_eq_true rfl) rfl dL_law_381 (fun x MC' hx => ?_)
  refine lp_a2 dL_law_384 ?_
  refine lp_callM (J := iX7_undo) (As := []) (st := [.int x]) (by decide) (mw_X7_undo hx) gL_law_X7_undo rfl hy_X7_undo rfl rfl (by decide) (Nat.le_of_ble_eq_true rfl) rfl dL_law_385 (fun x' MM' hx' => ?_)
  obtain ⟨rfl, hr⟩ := hx'
  exact lp_icmpeq (tgt := 649) dL_law_388 (by decide) (fun _ => hk _ _ hr) (fun z => absurd rfl z)
set_option maxHeartbeats 2000000 in
theorem lc_keep {E : EN} {b L : Nat} {xs : Nat → Int32} {k : Nat} {MC MM : Mem} (hL : L ≤ 2048) (hk4 : 4 * k + 4 ≤ L) (h : REL MC MM) (hk : ∀ MC' MM' : Mem, REL MC' MM' → LWP E b L xs 649 (nI (4 * k)) [] MC' MM') : LWP E b L xs 393 (nI (4 * k)) [] MC MM := by
  have v1 : vp_in (nI (4 * k + 1)) L := vp_in_nI (by omega) (by omega)
  have v2 : vp_in (nI (4 * k + 2)) L := vp_in_nI (by omega) (by omega)
  have v3 : vp_in (nI (4 * k + 3)) L := vp_in_nI (by omega) (by omega)
  refine lp_a1 dL_law_393 ?_
  refine lp_callC (J := iX6_keep) (As := []) (st := []) (by decide) (mw_X6_keep (pr_keep h)) gL_law_X6_keep rfl hy_X6_keep rfl rfl (by decide) (Nat.le_of_ble_eq_true rfl) rfl dL_law_394 (fun x MC' hx => ?_)
  refine lp_a2 dL_law_397 ?_
  refine lp_callM (J := iX7_keep) (As := []) (st := [.int x]) (by decide) (mw_X7_keep hx) gL_law_X7_keep rfl hy_X7_keep rfl rfl (by decide) (Nat.le_of_ble_eq_true rfl) rfl dL_law_398 (fun x' MM' hx' => ?_)
  obtain ⟨rfl, hr⟩ := hx'
  exact lp_icmpeq (tgt := 649) dL_law_401 (by decide) (fun _ => hk _ _ hr) (fun z => absurd rfl z)
set_option maxHeartbeats 2000000 in
theorem lc_restore {E : EN} {b L : Nat} {xs : Nat → Int32} {k : Nat} {MC MM : Mem} (hL : L ≤ 2048) (hk4 : 4 * k + 4 ≤ L) (h : REL MC MM) (hk : ∀ MC' MM' : Mem, REL MC' MM' → LWP E b L xs 649 (nI (4 * k)) [] MC' MM') : LWP E b L xs 406 (nI (4 * k)) [] MC MM := by
  have v1 : vp_in (nI (4 * k + 1)) L := vp_in_nI (by omega) (by omega)
  have v2 : vp_in (nI (4 * k + 2)) L := vp_in_nI (by omega) (by omega)
  have v3 : vp_in (nI (4 * k + 3)) L := vp_in_nI (by omega) (by omega)
  refine lp_a1 dL_law_406 ?_
  refine lp_callC (J := iX6_restore) (As := []) (st := []) (by decide) (mw_X6_restore (pr_restore h)) gL_law_X6_restore rfl hy_X6_restore rfl rfl (by decide) (Nat.le_of_ble_eq_true rfl) rfl dL_law_407 (fun x MC' hx => ?_)
  refine lp_a2 dL_law_410 ?_
  refine lp_callM (J := iX7_restore) (As := []) (st := [.int x]) (by decide) (mw_X7_restore hx) gL_law_X7_restore rfl hy_X7_restore rfl rfl (by decide) (Nat.le_of_ble_eq_true rfl) rfl dL_law_411 (fun x' MM' hx' => ?_)
  obtain ⟨rfl, hr⟩ := hx'
  exact lp_icmpeq (tgt := 649) dL_law_414 (by decide) (fun _ => hk _ _ hr) (fun z => absurd rfl z)
set_option maxHeartbeats 2000000 in
theorem lc_ofBend {E : EN} {b L : Nat} {xs : Nat → Int32} {k : Nat} {MC MM : Mem} (hL : L ≤ 2048) (hk4 : 4 * k + 4 ≤ L) (h : REL MC MM) (hk : ∀ MC' MM' : Mem, REL MC' MM' → LWP E b L xs 649 (nI (4 * k)) [] MC' MM') : LWP E b L xs 419 (nI (4 * k)) [] MC MM := by
  have v1 : vp_in (nI (4 * k + 1)) L := vp_in_nI (by omega) (by omega)
  have v2 : vp_in (nI (4 * k + 2)) L := vp_in_nI (by omega) (by omega)
  have v3 : vp_in (nI (4 * k + 3)) L := vp_in_nI (by omega) (by omega)
  refine lp_a1 dL_law_419 ?_
  refine lp_a0 dL_law_420 ?_
  refine lp_i3 dL_law_421 ?_
  refine lp_iconst (v := nI 1) dL_law_422 (by decide) ?_
  refine lp_iadd dL_law_423 ?_
  rw [show nI (4 * k) + nI 1 = nI (4 * k + 1) from nI_add _ _]
  refine lp_sld v1 dL_law_424 ?_
  rw [nI_clamp (show 4 * k + 1 < 2 ^ 31 by omega)]
  refine lp_a0 dL_law_425 ?_
  refine lp_i3 dL_law_426 ?_
  refine lp_iconst (v := nI 2) dL_law_427 (by decide) ?_
  refine lp_iadd dL_law_428 ?_
  rw [show nI (4 * k) + nI 2 = nI (4 * k + 2) from nI_add _ _]
  refine lp_sld v2 dL_law_429 ?_
  rw [nI_clamp (show 4 * k + 2 < 2 ^ 31 by omega)]
  refine lp_callC (J := iX6_ofBend) (As := [.int (xs (4 * k + 1)), .int (xs (4 * k + 2))]) (st := []) (by decide) (mw_X6_ofBend (pr_ofBend h)) gL_law_X6_ofBend rfl hy_X6_ofBend rfl rfl (by decide) (Nat.le_of_ble_eq_true rfl) rfl dL_law_430 (fun x MC' hx => ?_)
  refine lp_a2 dL_law_433 ?_
  refine lp_a0 dL_law_434 ?_
  refine lp_i3 dL_law_435 ?_
  refine lp_iconst (v := nI 1) dL_law_436 (by decide) ?_
  refine lp_iadd dL_law_437 ?_
  rw [show nI (4 * k) + nI 1 = nI (4 * k + 1) from nI_add _ _]
  refine lp_sld v1 dL_law_438 ?_
  rw [nI_clamp (show 4 * k + 1 < 2 ^ 31 by omega)]
  refine lp_a0 dL_law_439 ?_
  refine lp_i3 dL_law_440 ?_
  refine lp_iconst (v := nI 2) dL_law_441 (by decide) ?_
  refine lp_iadd dL_law_442 ?_
  rw [show nI (4 * k) + nI 2 = nI (4 * k + 2) from nI_add _ _]
  refine lp_sld v2 dL_law_443 ?_
  rw [nI_clamp (show 4 * k + 2 < 2 ^ 31 by omega)]
  refine lp_callM (J := iX7_ofBend) (As := [.int (xs (4 * k + 1)), .int (xs (4 * k + 2))]) (st := [.int x]) (by decide) (mw_X7_ofBend hx) gL_law_X7_ofBend rfl hy_X7_ofBend rfl rfl (by decide) (Nat.le_of_ble_eq_true rfl) rfl dL_law_444 (fun x' MM' hx' => ?_)
  obtain ⟨rfl, hr⟩ := hx'
  exact lp_icmpeq (tgt := 649) dL_law_447 (by decide) (fun _ => hk _ _ hr) (fun z => absurd rfl z)
set_option maxHeartbeats 2000000 in
theorem lc_lengthOf {E : EN} {b L : Nat} {xs : Nat → Int32} {k : Nat} {MC MM : Mem} (hL : L ≤ 2048) (hk4 : 4 * k + 4 ≤ L) (h : REL MC MM) (hk : ∀ MC' MM' : Mem, REL MC' MM' → LWP E b L xs 649 (nI (4 * k)) [] MC' MM') : LWP E b L xs 452 (nI (4 * k)) [] MC MM := by
  have v1 : vp_in (nI (4 * k + 1)) L := vp_in_nI (by omega) (by omega)
  have v2 : vp_in (nI (4 * k + 2)) L := vp_in_nI (by omega) (by omega)
  have v3 : vp_in (nI (4 * k + 3)) L := vp_in_nI (by omega) (by omega)
  refine lp_a1 dL_law_452 ?_
  refine lp_a0 dL_law_453 ?_
  refine lp_i3 dL_law_454 ?_
  refine lp_iconst (v := nI 1) dL_law_455 (by decide) ?_
  refine lp_iadd dL_law_456 ?_
  rw [show nI (4 * k) + nI 1 = nI (4 * k + 1) from nI_add _ _]
  refine lp_sld v1 dL_law_457 ?_
  rw [nI_clamp (show 4 * k + 1 < 2 ^ 31 by omega)]
  refine lp_callC (J := iX6_lengthOf) (As := [.int (xs (4 * k + 1))]) (st := []) (by decide) (mw_X6_lengthOf (pr_lengthOf h)) gL_law_X6_lengthOf rfl hy_X6_lengthOf rfl rfl (by decide) (Nat.le_of_ble_eq_true rfl) rfl dL_law_458 (fun x MC' hx => ?_)
  refine lp_a2 dL_law_461 ?_
  refine lp_a0 dL_law_462 ?_
  refine lp_i3 dL_law_463 ?_
  refine lp_iconst (v := nI 1) dL_law_464 (by decide) ?_
  refine lp_iadd dL_law_465 ?_
  rw [show nI (4 * k) + nI 1 = nI (4 * k + 1) from nI_add _ _]
  refine lp_sld v1 dL_law_466 ?_
  rw [nI_clamp (show 4 * k + 1 < 2 ^ 31 by omega)]
  refine lp_callM (J := iX7_lengthOf) (As := [.int (xs (4 * k + 1))]) (st := [.int x]) (by decide) (mw_X7_lengthOf hx) gL_law_X7_lengthOf rfl hy_X7_lengthOf rfl rfl (by decide) (Nat.le_of_ble_eq_true rfl) rfl dL_law_467 (fun x' MM' hx' => ?_)
  obtain ⟨rfl, hr⟩ := hx'
  exact lp_icmpeq (tgt := 649) dL_law_470 (by decide) (fun _ => hk _ _ hr) (fun z => absurd rfl z)
set_option maxHeartbeats 2000000 in
theorem lc_end {E : EN} {b L : Nat} {xs : Nat → Int32} {k : Nat} {MC MM : Mem} (hL : L ≤ 2048) (hk4 : 4 * k + 4 ≤ L) (h : REL MC MM) (hk : ∀ MC' MM' : Mem, REL MC' MM' → LWP E b L xs 649 (nI (4 * k)) [] MC' MM') : LWP E b L xs 475 (nI (4 * k)) [] MC MM := by
  have v1 : vp_in (nI (4 * k + 1)) L := vp_in_nI (by omega) (by omega)
  have v2 : vp_in (nI (4 * k + 2)) L := vp_in_nI (by omega) (by omega)
  have v3 : vp_in (nI (4 * k + 3)) L := vp_in_nI (by omega) (by omega)
  obtain ⟨ee, he, hz1, hz0⟩ : ∃ ee : Nat, ee ≤ 1 ∧ (xs (4 * k + 3) = 0 → ee = 0) ∧ (¬ xs (4 * k + 3) = 0 → ee = 1) := by
    by_cases c : xs (4 * k + 3) = 0
    · exact ⟨0, by decide, fun _ => rfl, fun z => absurd c z⟩
    · exact ⟨1, by decide, fun z => absurd z c, fun _ => rfl⟩
  refine lp_a1 dL_law_475 ?_
  refine lp_a0 dL_law_476 ?_
  refine lp_i3 dL_law_477 ?_
  refine lp_iconst (v := nI 1) dL_law_478 (by decide) ?_
  refine lp_iadd dL_law_479 ?_
  rw [show nI (4 * k) + nI 1 = nI (4 * k + 1) from nI_add _ _]
  refine lp_sld v1 dL_law_480 ?_
  rw [nI_clamp (show 4 * k + 1 < 2 ^ 31 by omega)]
  refine lp_a0 dL_law_481 ?_
  refine lp_i3 dL_law_482 ?_
  refine lp_iconst (v := nI 2) dL_law_483 (by decide) ?_
  refine lp_iadd dL_law_484 ?_
  rw [show nI (4 * k) + nI 2 = nI (4 * k + 2) from nI_add _ _]
  refine lp_sld v2 dL_law_485 ?_
  rw [nI_clamp (show 4 * k + 2 < 2 ^ 31 by omega)]
  refine lp_a0 dL_law_486 ?_
  refine lp_i3 dL_law_487 ?_
  refine lp_iconst (v := nI 3) dL_law_488 (by decide) ?_
  refine lp_iadd dL_law_489 ?_
  rw [show nI (4 * k) + nI 3 = nI (4 * k + 3) from nI_add _ _]
  refine lp_sld v3 dL_law_490 ?_
  rw [nI_clamp (show 4 * k + 3 < 2 ^ 31 by omega)]
  suffices hb : LWP E b L xs 499 (nI (4 * k)) [.int (nI ee), .int (xs (4 * k + 2)), .int (xs (4 * k + 1)), .ref (eB E)] MC MM by
    refine lp_ifeq (tgt := 498) dL_law_491 (by decide) (fun z => ?_) (fun z => ?_)
    · refine lp_iconst (v := nI 0) dL_law_498 (by decide) ?_
      rw [hz1 z] at hb
      exact hb
    · refine lp_iconst (v := nI 1) dL_law_494 (by decide) ?_
      refine lp_goto (tgt := 499) dL_law_495 (by decide) ?_
      rw [hz0 z] at hb
      exact hb
  refine lp_callC (J := iX6_end) (As := [.int (xs (4 * k + 1)), .int (xs (4 * k + 2)), .int (nI ee)]) (st := []) (by decide) (mw_X6_end (pr_end he h)) gL_law_X6_end rfl hy_X6_end rfl rfl (by decide) (Nat.le_of_ble_eq_true rfl) rfl dL_law_499 (fun x MC' hx => ?_)
  refine lp_a2 dL_law_502 ?_
  refine lp_a0 dL_law_503 ?_
  refine lp_i3 dL_law_504 ?_
  refine lp_iconst (v := nI 1) dL_law_505 (by decide) ?_
  refine lp_iadd dL_law_506 ?_
  rw [show nI (4 * k) + nI 1 = nI (4 * k + 1) from nI_add _ _]
  refine lp_sld v1 dL_law_507 ?_
  rw [nI_clamp (show 4 * k + 1 < 2 ^ 31 by omega)]
  refine lp_a0 dL_law_508 ?_
  refine lp_i3 dL_law_509 ?_
  refine lp_iconst (v := nI 2) dL_law_510 (by decide) ?_
  refine lp_iadd dL_law_511 ?_
  rw [show nI (4 * k) + nI 2 = nI (4 * k + 2) from nI_add _ _]
  refine lp_sld v2 dL_law_512 ?_
  rw [nI_clamp (show 4 * k + 2 < 2 ^ 31 by omega)]
  refine lp_a0 dL_law_513 ?_
  refine lp_i3 dL_law_514 ?_
  refine lp_iconst (v := nI 3) dL_law_515 (by decide) ?_
  refine lp_iadd dL_law_516 ?_
  rw [show nI (4 * k) + nI 3 = nI (4 * k + 3) from nI_add _ _]
  refine lp_sld v3 dL_law_517 ?_
  rw [nI_clamp (show 4 * k + 3 < 2 ^ 31 by omega)]
  suffices hb : LWP E b L xs 526 (nI (4 * k)) [.int (nI ee), .int (xs (4 * k + 2)), .int (xs (4 * k + 1)), .ref (eB E + 46), .int x] MC' MM by
    refine lp_ifeq (tgt := 525) dL_law_518 (by decide) (fun z => ?_) (fun z => ?_)
    · refine lp_iconst (v := nI 0) dL_law_525 (by decide) ?_
      rw [hz1 z] at hb
      exact hb
    · refine lp_iconst (v := nI 1) dL_law_521 (by decide) ?_
      refine lp_goto (tgt := 526) dL_law_522 (by decide) ?_
      rw [hz0 z] at hb
      exact hb
  refine lp_callM (J := iX7_end) (As := [.int (xs (4 * k + 1)), .int (xs (4 * k + 2)), .int (nI ee)]) (st := [.int x]) (by decide) (mw_X7_end hx) gL_law_X7_end rfl hy_X7_end rfl rfl (by decide) (Nat.le_of_ble_eq_true rfl) rfl dL_law_526 (fun x' MM' hx' => ?_)
  obtain ⟨rfl, hr⟩ := hx'
  exact lp_icmpeq (tgt := 649) dL_law_529 (by decide) (fun _ => hk _ _ hr) (fun z => absurd rfl z)
set_option maxHeartbeats 2000000 in
theorem lc_strikers {E : EN} {b L : Nat} {xs : Nat → Int32} {k : Nat} {MC MM : Mem} (hL : L ≤ 2048) (hk4 : 4 * k + 4 ≤ L) (h : REL MC MM) (hk : ∀ MC' MM' : Mem, REL MC' MM' → LWP E b L xs 649 (nI (4 * k)) [] MC' MM') : LWP E b L xs 534 (nI (4 * k)) [] MC MM := by
  have v1 : vp_in (nI (4 * k + 1)) L := vp_in_nI (by omega) (by omega)
  have v2 : vp_in (nI (4 * k + 2)) L := vp_in_nI (by omega) (by omega)
  have v3 : vp_in (nI (4 * k + 3)) L := vp_in_nI (by omega) (by omega)
  refine lp_a1 dL_law_534 ?_
  refine lp_a0 dL_law_535 ?_
  refine lp_i3 dL_law_536 ?_
  refine lp_iconst (v := nI 1) dL_law_537 (by decide) ?_
  refine lp_iadd dL_law_538 ?_
  rw [show nI (4 * k) + nI 1 = nI (4 * k + 1) from nI_add _ _]
  refine lp_sld v1 dL_law_539 ?_
  rw [nI_clamp (show 4 * k + 1 < 2 ^ 31 by omega)]
  refine lp_callC (J := iX6_strikers) (As := [.int (xs (4 * k + 1))]) (st := []) (by decide) (mw_X6_strikers (pr_strikers h)) gL_law_X6_strikers rfl hy_X6_strikers rfl rfl (by decide) (Nat.le_of_ble_eq_true rfl) rfl dL_law_540 (fun x MC' hx => ?_)
  refine lp_a2 dL_law_543 ?_
  refine lp_a0 dL_law_544 ?_
  refine lp_i3 dL_law_545 ?_
  refine lp_iconst (v := nI 1) dL_law_546 (by decide) ?_
  refine lp_iadd dL_law_547 ?_
  rw [show nI (4 * k) + nI 1 = nI (4 * k + 1) from nI_add _ _]
  refine lp_sld v1 dL_law_548 ?_
  rw [nI_clamp (show 4 * k + 1 < 2 ^ 31 by omega)]
  refine lp_callM (J := iX7_strikers) (As := [.int (xs (4 * k + 1))]) (st := [.int x]) (by decide) (mw_X7_strikers hx) gL_law_X7_strikers rfl hy_X7_strikers rfl rfl (by decide) (Nat.le_of_ble_eq_true rfl) rfl dL_law_549 (fun x' MM' hx' => ?_)
  obtain ⟨rfl, hr⟩ := hx'
  exact lp_icmpeq (tgt := 649) dL_law_552 (by decide) (fun _ => hk _ _ hr) (fun z => absurd rfl z)
set_option maxHeartbeats 2000000 in
theorem lc_order {E : EN} {b L : Nat} {xs : Nat → Int32} {k : Nat} {MC MM : Mem} (hL : L ≤ 2048) (hk4 : 4 * k + 4 ≤ L) (h : REL MC MM) (hk : ∀ MC' MM' : Mem, REL MC' MM' → LWP E b L xs 649 (nI (4 * k)) [] MC' MM') : LWP E b L xs 557 (nI (4 * k)) [] MC MM := by
  have v1 : vp_in (nI (4 * k + 1)) L := vp_in_nI (by omega) (by omega)
  have v2 : vp_in (nI (4 * k + 2)) L := vp_in_nI (by omega) (by omega)
  have v3 : vp_in (nI (4 * k + 3)) L := vp_in_nI (by omega) (by omega)
  refine lp_a1 dL_law_557 ?_
  refine lp_a0 dL_law_558 ?_
  refine lp_i3 dL_law_559 ?_
  refine lp_iconst (v := nI 1) dL_law_560 (by decide) ?_
  refine lp_iadd dL_law_561 ?_
  rw [show nI (4 * k) + nI 1 = nI (4 * k + 1) from nI_add _ _]
  refine lp_sld v1 dL_law_562 ?_
  rw [nI_clamp (show 4 * k + 1 < 2 ^ 31 by omega)]
  refine lp_callC (J := iX6_order) (As := [.int (xs (4 * k + 1))]) (st := []) (by decide) (mw_X6_order (pr_order h)) gL_law_X6_order rfl hy_X6_order rfl rfl (by decide) (Nat.le_of_ble_eq_true rfl) rfl dL_law_563 (fun x MC' hx => ?_)
  refine lp_a2 dL_law_566 ?_
  refine lp_a0 dL_law_567 ?_
  refine lp_i3 dL_law_568 ?_
  refine lp_iconst (v := nI 1) dL_law_569 (by decide) ?_
  refine lp_iadd dL_law_570 ?_
  rw [show nI (4 * k) + nI 1 = nI (4 * k + 1) from nI_add _ _]
  refine lp_sld v1 dL_law_571 ?_
  rw [nI_clamp (show 4 * k + 1 < 2 ^ 31 by omega)]
  refine lp_callM (J := iX7_order) (As := [.int (xs (4 * k + 1))]) (st := [.int x]) (by decide) (mw_X7_order hx) gL_law_X7_order rfl hy_X7_order rfl rfl (by decide) (Nat.le_of_ble_eq_true rfl) rfl dL_law_572 (fun x' MM' hx' => ?_)
  obtain ⟨rfl, hr⟩ := hx'
  exact lp_icmpeq (tgt := 649) dL_law_575 (by decide) (fun _ => hk _ _ hr) (fun z => absurd rfl z)
set_option maxHeartbeats 2000000 in
theorem lc_orders {E : EN} {b L : Nat} {xs : Nat → Int32} {k : Nat} {MC MM : Mem} (hL : L ≤ 2048) (hk4 : 4 * k + 4 ≤ L) (h : REL MC MM) (hk : ∀ MC' MM' : Mem, REL MC' MM' → LWP E b L xs 649 (nI (4 * k)) [] MC' MM') : LWP E b L xs 580 (nI (4 * k)) [] MC MM := by
  have v1 : vp_in (nI (4 * k + 1)) L := vp_in_nI (by omega) (by omega)
  have v2 : vp_in (nI (4 * k + 2)) L := vp_in_nI (by omega) (by omega)
  have v3 : vp_in (nI (4 * k + 3)) L := vp_in_nI (by omega) (by omega)
  refine lp_a1 dL_law_580 ?_
  refine lp_callC (J := iX6_orders) (As := []) (st := []) (by decide) (mw_X6_orders (pr_orders h)) gL_law_X6_orders rfl hy_X6_orders rfl rfl (by decide) (Nat.le_of_ble_eq_true rfl) rfl dL_law_581 (fun x MC' hx => ?_)
  refine lp_a2 dL_law_584 ?_
  refine lp_callM (J := iX7_orders) (As := []) (st := [.int x]) (by decide) (mw_X7_orders hx) gL_law_X7_orders rfl hy_X7_orders rfl rfl (by decide) (Nat.le_of_ble_eq_true rfl) rfl dL_law_585 (fun x' MM' hx' => ?_)
  obtain ⟨rfl, hr⟩ := hx'
  exact lp_icmpeq (tgt := 649) dL_law_588 (by decide) (fun _ => hk _ _ hr) (fun z => absurd rfl z)
set_option maxHeartbeats 2000000 in
theorem lc_mustWait {E : EN} {b L : Nat} {xs : Nat → Int32} {k : Nat} {MC MM : Mem} (hL : L ≤ 2048) (hk4 : 4 * k + 4 ≤ L) (h : REL MC MM) (hk : ∀ MC' MM' : Mem, REL MC' MM' → LWP E b L xs 649 (nI (4 * k)) [] MC' MM') : LWP E b L xs 593 (nI (4 * k)) [] MC MM := by
  have v1 : vp_in (nI (4 * k + 1)) L := vp_in_nI (by omega) (by omega)
  have v2 : vp_in (nI (4 * k + 2)) L := vp_in_nI (by omega) (by omega)
  have v3 : vp_in (nI (4 * k + 3)) L := vp_in_nI (by omega) (by omega)
  refine lp_a1 dL_law_593 ?_
  refine lp_a0 dL_law_594 ?_
  refine lp_i3 dL_law_595 ?_
  refine lp_iconst (v := nI 1) dL_law_596 (by decide) ?_
  refine lp_iadd dL_law_597 ?_
  rw [show nI (4 * k) + nI 1 = nI (4 * k + 1) from nI_add _ _]
  refine lp_sld v1 dL_law_598 ?_
  rw [nI_clamp (show 4 * k + 1 < 2 ^ 31 by omega)]
  refine lp_a0 dL_law_599 ?_
  refine lp_i3 dL_law_600 ?_
  refine lp_iconst (v := nI 2) dL_law_601 (by decide) ?_
  refine lp_iadd dL_law_602 ?_
  rw [show nI (4 * k) + nI 2 = nI (4 * k + 2) from nI_add _ _]
  refine lp_sld v2 dL_law_603 ?_
  rw [nI_clamp (show 4 * k + 2 < 2 ^ 31 by omega)]
  refine lp_callC (J := iX6_mustWait) (As := [.int (xs (4 * k + 1)), .int (xs (4 * k + 2))]) (st := []) (by decide) (mw_X6_mustWait (pr_mustWait h)) gL_law_X6_mustWait rfl hy_X6_mustWait rfl rfl (by decide) (Nat.le_of_ble_eq_true rfl) rfl dL_law_604 (fun x MC' hx => ?_)
  refine lp_a2 dL_law_607 ?_
  refine lp_a0 dL_law_608 ?_
  refine lp_i3 dL_law_609 ?_
  refine lp_iconst (v := nI 1) dL_law_610 (by decide) ?_
  refine lp_iadd dL_law_611 ?_
  rw [show nI (4 * k) + nI 1 = nI (4 * k + 1) from nI_add _ _]
  refine lp_sld v1 dL_law_612 ?_
  rw [nI_clamp (show 4 * k + 1 < 2 ^ 31 by omega)]
  refine lp_a0 dL_law_613 ?_
  refine lp_i3 dL_law_614 ?_
  refine lp_iconst (v := nI 2) dL_law_615 (by decide) ?_
  refine lp_iadd dL_law_616 ?_
  rw [show nI (4 * k) + nI 2 = nI (4 * k + 2) from nI_add _ _]
  refine lp_sld v2 dL_law_617 ?_
  rw [nI_clamp (show 4 * k + 2 < 2 ^ 31 by omega)]
  refine lp_callM (J := iX7_mustWait) (As := [.int (xs (4 * k + 1)), .int (xs (4 * k + 2))]) (st := [.int x]) (by decide) (mw_X7_mustWait hx) gL_law_X7_mustWait rfl hy_X7_mustWait rfl rfl (by decide) (Nat.le_of_ble_eq_true rfl) rfl dL_law_618 (fun x' MM' hx' => ?_)
  obtain ⟨rfl, hr⟩ := hx'
  exact lp_icmpeq (tgt := 649) dL_law_621 (by decide) (fun _ => hk _ _ hr) (fun z => absurd rfl z)
set_option maxHeartbeats 2000000 in
theorem lc_count {E : EN} {b L : Nat} {xs : Nat → Int32} {k : Nat} {MC MM : Mem} (hL : L ≤ 2048) (hk4 : 4 * k + 4 ≤ L) (h : REL MC MM) (hk : ∀ MC' MM' : Mem, REL MC' MM' → LWP E b L xs 649 (nI (4 * k)) [] MC' MM') : LWP E b L xs 626 (nI (4 * k)) [] MC MM := by
  have v1 : vp_in (nI (4 * k + 1)) L := vp_in_nI (by omega) (by omega)
  have v2 : vp_in (nI (4 * k + 2)) L := vp_in_nI (by omega) (by omega)
  have v3 : vp_in (nI (4 * k + 3)) L := vp_in_nI (by omega) (by omega)
  refine lp_a1 dL_law_626 ?_
  refine lp_a0 dL_law_627 ?_
  refine lp_i3 dL_law_628 ?_
  refine lp_iconst (v := nI 1) dL_law_629 (by decide) ?_
  refine lp_iadd dL_law_630 ?_
  rw [show nI (4 * k) + nI 1 = nI (4 * k + 1) from nI_add _ _]
  refine lp_sld v1 dL_law_631 ?_
  rw [nI_clamp (show 4 * k + 1 < 2 ^ 31 by omega)]
  refine lp_callC (J := iX6_count) (As := [.int (xs (4 * k + 1))]) (st := []) (by decide) (mw_X6_count (pr_count h)) gL_law_X6_count rfl hy_X6_count rfl rfl (by decide) (Nat.le_of_ble_eq_true rfl) rfl dL_law_632 (fun x MC' hx => ?_)
  refine lp_a2 dL_law_635 ?_
  refine lp_a0 dL_law_636 ?_
  refine lp_i3 dL_law_637 ?_
  refine lp_iconst (v := nI 1) dL_law_638 (by decide) ?_
  refine lp_iadd dL_law_639 ?_
  rw [show nI (4 * k) + nI 1 = nI (4 * k + 1) from nI_add _ _]
  refine lp_sld v1 dL_law_640 ?_
  rw [nI_clamp (show 4 * k + 1 < 2 ^ 31 by omega)]
  refine lp_callM (J := iX7_count) (As := [.int (xs (4 * k + 1))]) (st := [.int x]) (by decide) (mw_X7_count hx) gL_law_X7_count rfl hy_X7_count rfl rfl (by decide) (Nat.le_of_ble_eq_true rfl) rfl dL_law_641 (fun x' MM' hx' => ?_)
  obtain ⟨rfl, hr⟩ := hx'
  exact lp_icmpeq (tgt := 649) dL_law_644 (by decide) (fun _ => hk _ _ hr) (fun z => absurd rfl z)
set_option maxHeartbeats 2000000 in
theorem law_step {E : EN} {b L : Nat} {xs : Nat → Int32} {k : Nat} {MC MM : Mem} (hL : L ≤ 2048) (hk4 : 4 * k + 4 ≤ L) (h : REL MC MM) (hk : ∀ MC' MM' : Mem, REL MC' MM' → LWP E b L xs 649 (nI (4 * k)) [] MC' MM') : LWP E b L xs 26 (nI (4 * k)) [] MC MM := by
  refine lp_a0 dL_law_26 ?_
  refine lp_i3 dL_law_27 ?_
  refine lp_sld (vp_in_nI (by omega) (by omega)) dL_law_28 ?_
  refine lp_bipush (v := nI 31) dL_law_29 (by decide) ?_
  refine lp_iand dL_law_31 ?_
  generalize (xs (nI (4 * k)).toNatClampNeg &&& nI 31) = v
  by_cases c0 : v = nI 0
  · exact lp_tableIn (off := 100) (tgt := 132) dL_law_32 (by rw [c0]; decide) (by rw [c0]; decide) (by rw [c0]; decide +kernel) (by decide) (lc_takeStrip hL hk4 h hk)
  by_cases c1 : v = nI 1
  · exact lp_tableIn (off := 113) (tgt := 145) dL_law_32 (by rw [c1]; decide) (by rw [c1]; decide) (by rw [c1]; decide +kernel) (by decide) (lc_setLength hL hk4 h hk)
  by_cases c2 : v = nI 2
  · exact lp_tableIn (off := 146) (tgt := 178) dL_law_32 (by rw [c2]; decide) (by rw [c2]; decide) (by rw [c2]; decide +kernel) (by decide) (lc_setUp hL hk4 h hk)
  by_cases c3 : v = nI 3
  · exact lp_tableIn (off := 195) (tgt := 227) dL_law_32 (by rw [c3]; decide) (by rw [c3]; decide) (by rw [c3]; decide +kernel) (by decide) (lc_set hL hk4 h hk)
  by_cases c4 : v = nI 4
  · exact lp_tableIn (off := 228) (tgt := 260) dL_law_32 (by rw [c4]; decide) (by rw [c4]; decide) (by rw [c4]; decide +kernel) (by decide) (lc_layOver hL hk4 h hk)
  by_cases c5 : v = nI 5
  · exact lp_tableIn (off := 241) (tgt := 273) dL_law_32 (by rw [c5]; decide) (by rw [c5]; decide) (by rw [c5]; decide +kernel) (by decide) (lc_bend hL hk4 h hk)
  by_cases c6 : v = nI 6
  · exact lp_tableIn (off := 264) (tgt := 296) dL_law_32 (by rw [c6]; decide) (by rw [c6]; decide) (by rw [c6]; decide +kernel) (by decide) (lc_flatten hL hk4 h hk)
  by_cases c7 : v = nI 7
  · exact lp_tableIn (off := 287) (tgt := 319) dL_law_32 (by rw [c7]; decide) (by rw [c7]; decide) (by rw [c7]; decide +kernel) (by decide) (lc_follow hL hk4 h hk)
  by_cases c8 : v = nI 8
  · exact lp_tableIn (off := 310) (tgt := 342) dL_law_32 (by rw [c8]; decide) (by rw [c8]; decide) (by rw [c8]; decide +kernel) (by decide) (lc_type hL hk4 h hk)
  by_cases c9 : v = nI 9
  · exact lp_tableIn (off := 335) (tgt := 367) dL_law_32 (by rw [c9]; decide) (by rw [c9]; decide) (by rw [c9]; decide +kernel) (by decide) (lc_clearText hL hk4 h hk)
  by_cases c10 : v = nI 10
  · exact lp_tableIn (off := 348) (tgt := 380) dL_law_32 (by rw [c10]; decide) (by rw [c10]; decide) (by rw [c10]; decide +kernel) (by decide) (lc_undo hL hk4 h hk)
  by_cases c11 : v = nI 11
  · exact lp_tableIn (off := 361) (tgt := 393) dL_law_32 (by rw [c11]; decide) (by rw [c11]; decide) (by rw [c11]; decide +kernel) (by decide) (lc_keep hL hk4 h hk)
  by_cases c12 : v = nI 12
  · exact lp_tableIn (off := 374) (tgt := 406) dL_law_32 (by rw [c12]; decide) (by rw [c12]; decide) (by rw [c12]; decide +kernel) (by decide) (lc_restore hL hk4 h hk)
  by_cases c13 : v = nI 13
  · exact lp_tableIn (off := 387) (tgt := 419) dL_law_32 (by rw [c13]; decide) (by rw [c13]; decide) (by rw [c13]; decide +kernel) (by decide) (lc_ofBend hL hk4 h hk)
  by_cases c14 : v = nI 14
  · exact lp_tableIn (off := 420) (tgt := 452) dL_law_32 (by rw [c14]; decide) (by rw [c14]; decide) (by rw [c14]; decide +kernel) (by decide) (lc_lengthOf hL hk4 h hk)
  by_cases c15 : v = nI 15
  · exact lp_tableIn (off := 443) (tgt := 475) dL_law_32 (by rw [c15]; decide) (by rw [c15]; decide) (by rw [c15]; decide +kernel) (by decide) (lc_end hL hk4 h hk)
  by_cases c16 : v = nI 16
  · exact lp_tableIn (off := 502) (tgt := 534) dL_law_32 (by rw [c16]; decide) (by rw [c16]; decide) (by rw [c16]; decide +kernel) (by decide) (lc_strikers hL hk4 h hk)
  by_cases c17 : v = nI 17
  · exact lp_tableIn (off := 525) (tgt := 557) dL_law_32 (by rw [c17]; decide) (by rw [c17]; decide) (by rw [c17]; decide +kernel) (by decide) (lc_order hL hk4 h hk)
  by_cases c18 : v = nI 18
  · exact lp_tableIn (off := 548) (tgt := 580) dL_law_32 (by rw [c18]; decide) (by rw [c18]; decide) (by rw [c18]; decide +kernel) (by decide) (lc_orders hL hk4 h hk)
  by_cases c19 : v = nI 19
  · exact lp_tableIn (off := 561) (tgt := 593) dL_law_32 (by rw [c19]; decide) (by rw [c19]; decide) (by rw [c19]; decide +kernel) (by decide) (lc_mustWait hL hk4 h hk)
  by_cases c20 : v = nI 20
  · exact lp_tableIn (off := 594) (tgt := 626) dL_law_32 (by rw [c20]; decide) (by rw [c20]; decide) (by rw [c20]; decide +kernel) (by decide) (lc_count hL hk4 h hk)
  have a0 : ¬ v.toInt = 0 := fun z => c0 (Int32.toInt_inj.mp (z.trans (by decide)))
  have a1 : ¬ v.toInt = 1 := fun z => c1 (Int32.toInt_inj.mp (z.trans (by decide)))
  have a2 : ¬ v.toInt = 2 := fun z => c2 (Int32.toInt_inj.mp (z.trans (by decide)))
  have a3 : ¬ v.toInt = 3 := fun z => c3 (Int32.toInt_inj.mp (z.trans (by decide)))
  have a4 : ¬ v.toInt = 4 := fun z => c4 (Int32.toInt_inj.mp (z.trans (by decide)))
  have a5 : ¬ v.toInt = 5 := fun z => c5 (Int32.toInt_inj.mp (z.trans (by decide)))
  have a6 : ¬ v.toInt = 6 := fun z => c6 (Int32.toInt_inj.mp (z.trans (by decide)))
  have a7 : ¬ v.toInt = 7 := fun z => c7 (Int32.toInt_inj.mp (z.trans (by decide)))
  have a8 : ¬ v.toInt = 8 := fun z => c8 (Int32.toInt_inj.mp (z.trans (by decide)))
  have a9 : ¬ v.toInt = 9 := fun z => c9 (Int32.toInt_inj.mp (z.trans (by decide)))
  have a10 : ¬ v.toInt = 10 := fun z => c10 (Int32.toInt_inj.mp (z.trans (by decide)))
  have a11 : ¬ v.toInt = 11 := fun z => c11 (Int32.toInt_inj.mp (z.trans (by decide)))
  have a12 : ¬ v.toInt = 12 := fun z => c12 (Int32.toInt_inj.mp (z.trans (by decide)))
  have a13 : ¬ v.toInt = 13 := fun z => c13 (Int32.toInt_inj.mp (z.trans (by decide)))
  have a14 : ¬ v.toInt = 14 := fun z => c14 (Int32.toInt_inj.mp (z.trans (by decide)))
  have a15 : ¬ v.toInt = 15 := fun z => c15 (Int32.toInt_inj.mp (z.trans (by decide)))
  have a16 : ¬ v.toInt = 16 := fun z => c16 (Int32.toInt_inj.mp (z.trans (by decide)))
  have a17 : ¬ v.toInt = 17 := fun z => c17 (Int32.toInt_inj.mp (z.trans (by decide)))
  have a18 : ¬ v.toInt = 18 := fun z => c18 (Int32.toInt_inj.mp (z.trans (by decide)))
  have a19 : ¬ v.toInt = 19 := fun z => c19 (Int32.toInt_inj.mp (z.trans (by decide)))
  have a20 : ¬ v.toInt = 20 := fun z => c20 (Int32.toInt_inj.mp (z.trans (by decide)))
  exact lp_tableOut (tgt := 649) dL_law_32 (by omega) (by decide) (hk _ _ h)
theorem law_loop {E : EN} {b L : Nat} {xs : Nat → Int32} (hL : L ≤ 2048) : ∀ (n k : Nat) (MC MM : Mem), REL MC MM → 4 * k ≤ L → L < 4 * (n + k) → LWP E b L xs 18 (nI (4 * k)) [] MC MM := by
  intro n
  induction n with
  | zero => intro k MC MM h h1 h2; omega
  | succ n ih =>
    intro k MC MM h h1 h2
    refine lp_i3 dL_law_18 ?_
    refine lp_a0 dL_law_19 ?_
    refine lp_slen dL_law_20 ?_
    refine lp_iconst (v := nI 4) dL_law_21 (by decide) ?_
    refine lp_isub dL_law_22 ?_
    have e1 : Int32.ofNat L - nI 4 = iI ((L : Int) - 4) := by
      show nI L - nI 4 = _
      rw [← iI_nat, show nI 4 = iI 4 by decide, iI_sub]
    have e2 : nI (4 * k) = iI ((4 * k : Nat) : Int) := (iI_nat _).symm
    refine lp_icmpgt (tgt := 655) dL_law_23 (by decide) (fun z => ?_) (fun z => ?_)
    · refine lp_iconst (v := 1) dL_law_655 (by decide) ?_
      exact lp_ret dL_law_656
    · rw [e1, e2, iI_lt (by omega) (by omega)] at z
      refine law_step hL (by omega) h (fun MC' MM' h' => ?_)
      refine lp_iinc (v := nI (4 * (k + 1))) dL_law_649 ?_ ?_
      · rw [show Int32.ofInt 4 = nI 4 by decide, nI_add, show 4 * k + 4 = 4 * (k + 1) by omega]
      · refine lp_goto (tgt := 18) dL_law_652 (by decide) ?_
        exact ih (k + 1) MC' MM' h' (by omega) (by omega)
