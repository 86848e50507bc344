section
-- ===== PART A: goes FIRST, ahead of the names: the tables' words, and 'selects' of the private methods out of them =====
/-- a private method of a class that the tables say can be made, by its rows of tables_1 -/
def lw_okq (q : MethodName × Nat) : Prop := (q.1.cls ≠ "java/lang/invoke/MethodHandle" ∧ q.1.cls ≠ "java/lang/invoke/VarHandle") ∧ Cond.instantiable q.1.cls q.2 ∈ tables_1 ∧ Cond.privateMethod q.1 ∈ tables_1 ∧ Cond.instanceMethod q.1 ∈ tables_1
theorem lw_p0 : lw_okq (⟨"BendOrders$Text", "isAllowed", "(I)Z"⟩, 2) := ⟨⟨by decide +kernel, by decide +kernel⟩, List.mem_of_getElem? (i := 81) (by decide +kernel), List.mem_of_getElem? (i := 206) (by decide +kernel), List.mem_of_getElem? (i := 207) (by decide +kernel)⟩
theorem lw_p1 : lw_okq (⟨"BendOrders$History", "dropOldest", "()V"⟩, 2) := ⟨⟨by decide +kernel, by decide +kernel⟩, List.mem_of_getElem? (i := 64) (by decide +kernel), List.mem_of_getElem? (i := 218) (by decide +kernel), List.mem_of_getElem? (i := 219) (by decide +kernel)⟩
theorem lw_p2 : lw_okq (⟨"BendOrders$History", "rowAt", "(I)LBendOrders$State;"⟩, 2) := ⟨⟨by decide +kernel, by decide +kernel⟩, List.mem_of_getElem? (i := 64) (by decide +kernel), List.mem_of_getElem? (i := 222) (by decide +kernel), List.mem_of_getElem? (i := 223) (by decide +kernel)⟩
theorem lw_p3 : lw_okq (⟨"BendOrders$Shape", "startAtTool", "(I)V"⟩, 11) := ⟨⟨by decide +kernel, by decide +kernel⟩, List.mem_of_getElem? (i := 102) (by decide +kernel), List.mem_of_getElem? (i := 329) (by decide +kernel), List.mem_of_getElem? (i := 330) (by decide +kernel)⟩
theorem lw_p4 : lw_okq (⟨"BendOrders$Shape", "turnAt", "(IIZ)V"⟩, 11) := ⟨⟨by decide +kernel, by decide +kernel⟩, List.mem_of_getElem? (i := 102) (by decide +kernel), List.mem_of_getElem? (i := 334) (by decide +kernel), List.mem_of_getElem? (i := 335) (by decide +kernel)⟩
theorem lw_p5 : lw_okq (⟨"BendOrders$Shape", "draw", "(II)V"⟩, 11) := ⟨⟨by decide +kernel, by decide +kernel⟩, List.mem_of_getElem? (i := 102) (by decide +kernel), List.mem_of_getElem? (i := 339) (by decide +kernel), List.mem_of_getElem? (i := 340) (by decide +kernel)⟩
theorem lw_p6 : lw_okq (⟨"BendOrders$Press", "inUpper", "(LBendOrders$State;)I"⟩, 1) := ⟨⟨by decide +kernel, by decide +kernel⟩, List.mem_of_getElem? (i := 96) (by decide +kernel), List.mem_of_getElem? (i := 343) (by decide +kernel), List.mem_of_getElem? (i := 344) (by decide +kernel)⟩
theorem lw_p7 : lw_okq (⟨"BendOrders$Press", "inLower", "()I"⟩, 1) := ⟨⟨by decide +kernel, by decide +kernel⟩, List.mem_of_getElem? (i := 96) (by decide +kernel), List.mem_of_getElem? (i := 352) (by decide +kernel), List.mem_of_getElem? (i := 353) (by decide +kernel)⟩
theorem lw_p8 : lw_okq (⟨"BendOrders", "hasOrder", "()Z"⟩, 7) := ⟨⟨by decide +kernel, by decide +kernel⟩, List.mem_of_getElem? (i := 13) (by decide +kernel), List.mem_of_getElem? (i := 386) (by decide +kernel), List.mem_of_getElem? (i := 387) (by decide +kernel)⟩
theorem lw_p9 : lw_okq (⟨"BendOrders$Plan", "fillRow", "(II)V"⟩, 6) := ⟨⟨by decide +kernel, by decide +kernel⟩, List.mem_of_getElem? (i := 146) (by decide +kernel), List.mem_of_getElem? (i := 405) (by decide +kernel), List.mem_of_getElem? (i := 406) (by decide +kernel)⟩
theorem lw_p10 : lw_okq (⟨"BendOrders$Plan", "stepsFrom", "(I)I"⟩, 6) := ⟨⟨by decide +kernel, by decide +kernel⟩, List.mem_of_getElem? (i := 146) (by decide +kernel), List.mem_of_getElem? (i := 426) (by decide +kernel), List.mem_of_getElem? (i := 427) (by decide +kernel)⟩
theorem lw_p11 : lw_okq (⟨"BendOrders", "isOpen", "(I)Z"⟩, 7) := ⟨⟨by decide +kernel, by decide +kernel⟩, List.mem_of_getElem? (i := 13) (by decide +kernel), List.mem_of_getElem? (i := 507) (by decide +kernel), List.mem_of_getElem? (i := 508) (by decide +kernel)⟩
theorem lw_p12 : lw_okq (⟨"BendOrders$Plan", "reachFrom", "(II)V"⟩, 6) := ⟨⟨by decide +kernel, by decide +kernel⟩, List.mem_of_getElem? (i := 146) (by decide +kernel), List.mem_of_getElem? (i := 516) (by decide +kernel), List.mem_of_getElem? (i := 517) (by decide +kernel)⟩
theorem lw_p13 : lw_okq (⟨"BendOrders", "possibleNow", "()I"⟩, 7) := ⟨⟨by decide +kernel, by decide +kernel⟩, List.mem_of_getElem? (i := 13) (by decide +kernel), List.mem_of_getElem? (i := 524) (by decide +kernel), List.mem_of_getElem? (i := 525) (by decide +kernel)⟩
theorem lw_p14 : lw_okq (⟨"BendOrdersModel", "isFlange", "(I)Z"⟩, 13) := ⟨⟨by decide +kernel, by decide +kernel⟩, List.mem_of_getElem? (i := 537) (by decide +kernel), List.mem_of_getElem? (i := 587) (by decide +kernel), List.mem_of_getElem? (i := 588) (by decide +kernel)⟩
theorem lw_p15 : lw_okq (⟨"BendOrdersModel", "know", "()V"⟩, 13) := ⟨⟨by decide +kernel, by decide +kernel⟩, List.mem_of_getElem? (i := 537) (by decide +kernel), List.mem_of_getElem? (i := 594) (by decide +kernel), List.mem_of_getElem? (i := 595) (by decide +kernel)⟩
def lw_privs_1 : List (MethodName × Nat) := [(⟨"BendOrders$Text", "isAllowed", "(I)Z"⟩, 2), (⟨"BendOrders$History", "dropOldest", "()V"⟩, 2), (⟨"BendOrders$History", "rowAt", "(I)LBendOrders$State;"⟩, 2), (⟨"BendOrders$Shape", "startAtTool", "(I)V"⟩, 11), (⟨"BendOrders$Shape", "turnAt", "(IIZ)V"⟩, 11), (⟨"BendOrders$Shape", "draw", "(II)V"⟩, 11), (⟨"BendOrders$Press", "inUpper", "(LBendOrders$State;)I"⟩, 1), (⟨"BendOrders$Press", "inLower", "()I"⟩, 1), (⟨"BendOrders", "hasOrder", "()Z"⟩, 7), (⟨"BendOrders$Plan", "fillRow", "(II)V"⟩, 6), (⟨"BendOrders$Plan", "stepsFrom", "(I)I"⟩, 6), (⟨"BendOrders", "isOpen", "(I)Z"⟩, 7), (⟨"BendOrders$Plan", "reachFrom", "(II)V"⟩, 6), (⟨"BendOrders", "possibleNow", "()I"⟩, 7), (⟨"BendOrdersModel", "isFlange", "(I)Z"⟩, 13), (⟨"BendOrdersModel", "know", "()V"⟩, 13)]
theorem lw_r1 : ∀ q ∈ lw_privs_1, lw_okq q := List.forall_mem_cons.mpr ⟨lw_p0, List.forall_mem_cons.mpr ⟨lw_p1, List.forall_mem_cons.mpr ⟨lw_p2, List.forall_mem_cons.mpr ⟨lw_p3, List.forall_mem_cons.mpr ⟨lw_p4, List.forall_mem_cons.mpr ⟨lw_p5, List.forall_mem_cons.mpr ⟨lw_p6, List.forall_mem_cons.mpr ⟨lw_p7, List.forall_mem_cons.mpr ⟨lw_p8, List.forall_mem_cons.mpr ⟨lw_p9, List.forall_mem_cons.mpr ⟨lw_p10, List.forall_mem_cons.mpr ⟨lw_p11, List.forall_mem_cons.mpr ⟨lw_p12, List.forall_mem_cons.mpr ⟨lw_p13, List.forall_mem_cons.mpr ⟨lw_p14, List.forall_mem_cons.mpr ⟨lw_p15, fun _ h => absurd h List.not_mem_nil⟩⟩⟩⟩⟩⟩⟩⟩⟩⟩⟩⟩⟩⟩⟩⟩
theorem lw_p16 : lw_okq (⟨"BendOrdersModel", "puts", "(II)I"⟩, 13) := ⟨⟨by decide +kernel, by decide +kernel⟩, List.mem_of_getElem? (i := 537) (by decide +kernel), List.mem_of_getElem? (i := 598) (by decide +kernel), List.mem_of_getElem? (i := 599) (by decide +kernel)⟩
theorem lw_p17 : lw_okq (⟨"BendOrdersModel", "isBend", "(I)Z"⟩, 13) := ⟨⟨by decide +kernel, by decide +kernel⟩, List.mem_of_getElem? (i := 537) (by decide +kernel), List.mem_of_getElem? (i := 606) (by decide +kernel), List.mem_of_getElem? (i := 607) (by decide +kernel)⟩
theorem lw_p18 : lw_okq (⟨"BendOrdersModel", "reason", "(III)I"⟩, 13) := ⟨⟨by decide +kernel, by decide +kernel⟩, List.mem_of_getElem? (i := 537) (by decide +kernel), List.mem_of_getElem? (i := 622) (by decide +kernel), List.mem_of_getElem? (i := 623) (by decide +kernel)⟩
theorem lw_p19 : lw_okq (⟨"BendOrdersModel", "isUp", "(II)Z"⟩, 13) := ⟨⟨by decide +kernel, by decide +kernel⟩, List.mem_of_getElem? (i := 537) (by decide +kernel), List.mem_of_getElem? (i := 629) (by decide +kernel), List.mem_of_getElem? (i := 630) (by decide +kernel)⟩
theorem lw_p20 : lw_okq (⟨"BendOrdersModel", "clamped", "(II)I"⟩, 13) := ⟨⟨by decide +kernel, by decide +kernel⟩, List.mem_of_getElem? (i := 537) (by decide +kernel), List.mem_of_getElem? (i := 633) (by decide +kernel), List.mem_of_getElem? (i := 634) (by decide +kernel)⟩
theorem lw_p21 : lw_okq (⟨"BendOrdersModel", "lay", "(III)V"⟩, 13) := ⟨⟨by decide +kernel, by decide +kernel⟩, List.mem_of_getElem? (i := 537) (by decide +kernel), List.mem_of_getElem? (i := 637) (by decide +kernel), List.mem_of_getElem? (i := 638) (by decide +kernel)⟩
theorem lw_p22 : lw_okq (⟨"BendOrdersModel", "laySide", "(IZII)V"⟩, 13) := ⟨⟨by decide +kernel, by decide +kernel⟩, List.mem_of_getElem? (i := 537) (by decide +kernel), List.mem_of_getElem? (i := 641) (by decide +kernel), List.mem_of_getElem? (i := 642) (by decide +kernel)⟩
theorem lw_p23 : lw_okq (⟨"BendOrdersModel", "strike", "(Z)I"⟩, 13) := ⟨⟨by decide +kernel, by decide +kernel⟩, List.mem_of_getElem? (i := 537) (by decide +kernel), List.mem_of_getElem? (i := 645) (by decide +kernel), List.mem_of_getElem? (i := 646) (by decide +kernel)⟩
theorem lw_p24 : lw_okq (⟨"BendOrdersModel", "swing", "(I)V"⟩, 13) := ⟨⟨by decide +kernel, by decide +kernel⟩, List.mem_of_getElem? (i := 537) (by decide +kernel), List.mem_of_getElem? (i := 649) (by decide +kernel), List.mem_of_getElem? (i := 650) (by decide +kernel)⟩
theorem lw_p25 : lw_okq (⟨"BendOrdersModel", "strikesItself", "()Z"⟩, 13) := ⟨⟨by decide +kernel, by decide +kernel⟩, List.mem_of_getElem? (i := 537) (by decide +kernel), List.mem_of_getElem? (i := 653) (by decide +kernel), List.mem_of_getElem? (i := 654) (by decide +kernel)⟩
theorem lw_p26 : lw_okq (⟨"BendOrdersModel", "does", "(I)I"⟩, 13) := ⟨⟨by decide +kernel, by decide +kernel⟩, List.mem_of_getElem? (i := 537) (by decide +kernel), List.mem_of_getElem? (i := 657) (by decide +kernel), List.mem_of_getElem? (i := 658) (by decide +kernel)⟩
theorem lw_p27 : lw_okq (⟨"BendOrdersModel", "allOrders", "()I"⟩, 13) := ⟨⟨by decide +kernel, by decide +kernel⟩, List.mem_of_getElem? (i := 537) (by decide +kernel), List.mem_of_getElem? (i := 672) (by decide +kernel), List.mem_of_getElem? (i := 673) (by decide +kernel)⟩
theorem lw_p28 : lw_okq (⟨"BendOrdersModel", "findNext", "()V"⟩, 13) := ⟨⟨by decide +kernel, by decide +kernel⟩, List.mem_of_getElem? (i := 537) (by decide +kernel), List.mem_of_getElem? (i := 676) (by decide +kernel), List.mem_of_getElem? (i := 677) (by decide +kernel)⟩
theorem lw_p29 : lw_okq (⟨"BendOrdersModel", "all", "()I"⟩, 13) := ⟨⟨by decide +kernel, by decide +kernel⟩, List.mem_of_getElem? (i := 537) (by decide +kernel), List.mem_of_getElem? (i := 680) (by decide +kernel), List.mem_of_getElem? (i := 681) (by decide +kernel)⟩
theorem lw_p30 : lw_okq (⟨"BendOrdersModel", "countOrders", "(II)I"⟩, 13) := ⟨⟨by decide +kernel, by decide +kernel⟩, List.mem_of_getElem? (i := 537) (by decide +kernel), List.mem_of_getElem? (i := 684) (by decide +kernel), List.mem_of_getElem? (i := 685) (by decide +kernel)⟩
theorem lw_p31 : lw_okq (⟨"BendOrdersModel", "nextOf", "(I)I"⟩, 13) := ⟨⟨by decide +kernel, by decide +kernel⟩, List.mem_of_getElem? (i := 537) (by decide +kernel), List.mem_of_getElem? (i := 688) (by decide +kernel), List.mem_of_getElem? (i := 689) (by decide +kernel)⟩
def lw_privs_2 : List (MethodName × Nat) := [(⟨"BendOrdersModel", "puts", "(II)I"⟩, 13), (⟨"BendOrdersModel", "isBend", "(I)Z"⟩, 13), (⟨"BendOrdersModel", "reason", "(III)I"⟩, 13), (⟨"BendOrdersModel", "isUp", "(II)Z"⟩, 13), (⟨"BendOrdersModel", "clamped", "(II)I"⟩, 13), (⟨"BendOrdersModel", "lay", "(III)V"⟩, 13), (⟨"BendOrdersModel", "laySide", "(IZII)V"⟩, 13), (⟨"BendOrdersModel", "strike", "(Z)I"⟩, 13), (⟨"BendOrdersModel", "swing", "(I)V"⟩, 13), (⟨"BendOrdersModel", "strikesItself", "()Z"⟩, 13), (⟨"BendOrdersModel", "does", "(I)I"⟩, 13), (⟨"BendOrdersModel", "allOrders", "()I"⟩, 13), (⟨"BendOrdersModel", "findNext", "()V"⟩, 13), (⟨"BendOrdersModel", "all", "()I"⟩, 13), (⟨"BendOrdersModel", "countOrders", "(II)I"⟩, 13), (⟨"BendOrdersModel", "nextOf", "(I)I"⟩, 13)]
theorem lw_r2 : ∀ q ∈ lw_privs_2, lw_okq q := List.forall_mem_cons.mpr ⟨lw_p16, List.forall_mem_cons.mpr ⟨lw_p17, List.forall_mem_cons.mpr ⟨lw_p18, List.forall_mem_cons.mpr ⟨lw_p19, List.forall_mem_cons.mpr ⟨lw_p20, List.forall_mem_cons.mpr ⟨lw_p21, List.forall_mem_cons.mpr ⟨lw_p22, List.forall_mem_cons.mpr ⟨lw_p23, List.forall_mem_cons.mpr ⟨lw_p24, List.forall_mem_cons.mpr ⟨lw_p25, List.forall_mem_cons.mpr ⟨lw_p26, List.forall_mem_cons.mpr ⟨lw_p27, List.forall_mem_cons.mpr ⟨lw_p28, List.forall_mem_cons.mpr ⟨lw_p29, List.forall_mem_cons.mpr ⟨lw_p30, List.forall_mem_cons.mpr ⟨lw_p31, fun _ h => absurd h List.not_mem_nil⟩⟩⟩⟩⟩⟩⟩⟩⟩⟩⟩⟩⟩⟩⟩⟩
theorem lw_p32 : lw_okq (⟨"BendOrdersModel", "fault", "()I"⟩, 13) := ⟨⟨by decide +kernel, by decide +kernel⟩, List.mem_of_getElem? (i := 537) (by decide +kernel), List.mem_of_getElem? (i := 704) (by decide +kernel), List.mem_of_getElem? (i := 705) (by decide +kernel)⟩
theorem lw_p33 : lw_okq (⟨"BendOrdersModel", "degrees", "(I)I"⟩, 13) := ⟨⟨by decide +kernel, by decide +kernel⟩, List.mem_of_getElem? (i := 537) (by decide +kernel), List.mem_of_getElem? (i := 724) (by decide +kernel), List.mem_of_getElem? (i := 725) (by decide +kernel)⟩
theorem lw_p34 : lw_okq (⟨"BendOrdersModel", "canNow", "()I"⟩, 13) := ⟨⟨by decide +kernel, by decide +kernel⟩, List.mem_of_getElem? (i := 537) (by decide +kernel), List.mem_of_getElem? (i := 756) (by decide +kernel), List.mem_of_getElem? (i := 757) (by decide +kernel)⟩
theorem lw_p35 : lw_okq (⟨"BendOrdersModel", "turnings", "()I"⟩, 13) := ⟨⟨by decide +kernel, by decide +kernel⟩, List.mem_of_getElem? (i := 537) (by decide +kernel), List.mem_of_getElem? (i := 760) (by decide +kernel), List.mem_of_getElem? (i := 761) (by decide +kernel)⟩
theorem lw_p36 : lw_okq (⟨"BendOrdersModel", "wholeLength", "()I"⟩, 13) := ⟨⟨by decide +kernel, by decide +kernel⟩, List.mem_of_getElem? (i := 537) (by decide +kernel), List.mem_of_getElem? (i := 764) (by decide +kernel), List.mem_of_getElem? (i := 765) (by decide +kernel)⟩
def lw_privs_3 : List (MethodName × Nat) := [(⟨"BendOrdersModel", "fault", "()I"⟩, 13), (⟨"BendOrdersModel", "degrees", "(I)I"⟩, 13), (⟨"BendOrdersModel", "canNow", "()I"⟩, 13), (⟨"BendOrdersModel", "turnings", "()I"⟩, 13), (⟨"BendOrdersModel", "wholeLength", "()I"⟩, 13)]
theorem lw_r3 : ∀ q ∈ lw_privs_3, lw_okq q := List.forall_mem_cons.mpr ⟨lw_p32, List.forall_mem_cons.mpr ⟨lw_p33, List.forall_mem_cons.mpr ⟨lw_p34, List.forall_mem_cons.mpr ⟨lw_p35, List.forall_mem_cons.mpr ⟨lw_p36, fun _ h => absurd h List.not_mem_nil⟩⟩⟩⟩⟩
def lw_privs : List (MethodName × Nat) := lw_privs_1 ++ (lw_privs_2 ++ (lw_privs_3))
def lw_tbl : List Cond := k2_sels lw_privs ++ tables_1
theorem lw_privs_ok : ∀ q ∈ lw_privs, lw_okq q := by
  show ∀ q ∈ lw_privs_1 ++ (lw_privs_2 ++ (lw_privs_3)), lw_okq q
  exact List.forall_mem_append.mpr ⟨lw_r1, List.forall_mem_append.mpr ⟨lw_r2, lw_r3⟩⟩
-- ===== end of PART A; then your names; then what follows =====
end
section
/-! ===== BEGIN words of one list among another's, by their places ===== -/
theorem goodIn_r {big : List Cond} (ws : List Cond) (ps : List Nat) (hp : ws = ps.filterMap (fun i => big[i]?)) (h : ws.all goodWord = true) : GoodIn big ws := by
  intro w hw
  have h1 := List.all_eq_true.mp h w hw
  rw [hp] at hw
  obtain ⟨i, -, hi⟩ := List.mem_filterMap.mp hw
  have hm : w ∈ big := by first | exact List.mem_of_getElem? hi | exact List.getElem?_mem hi
  exact ⟨hm, good_of_word h1⟩
theorem goodIn_app {big a b : List Cond} (ha : GoodIn big a) (hb : GoodIn big b) : GoodIn big (a ++ b) := fun w h => (List.mem_append.mp h).elim (ha w) (hb w)
theorem goodIn_ca {big a b : List Cond} {c : Cond} (ha : GoodIn big (c :: a)) (hb : GoodIn big b) : GoodIn big (c :: (a ++ b)) := fun w h => (List.mem_cons.mp h).elim (fun e => ha w (List.mem_cons.mpr (Or.inl e))) (fun h => (List.mem_append.mp h).elim (fun h => ha w (List.mem_cons.mpr (Or.inr h))) (hb w))
theorem goodIn_sub {big ws : List Cond} (hm : ∀ w ∈ ws, w ∈ big) (h : ws.all goodWord = true) : GoodIn big ws := fun w hw => ⟨hm w hw, good_of_word (List.all_eq_true.mp h w hw)⟩
/-! ===== END ===== -/

/-! ===== BEGIN printed: names, fields, word lists, decode rows ===== -/
def RX0 : String := "BendOrders$History"
def TX0 : u_T := fun k => match k with
  | 0 => ("BendOrders$History", "size", "I", false)
  | _ => ("BendOrders$History", "states", "[LBendOrders$State;", true)
def tyX0 : Nat → FieldType := fun k => match k with
  | 0 => .int
  | _ => .array (.object "BendOrders$State")
abbrev wsX00 : List Cond := u_ws RX0 TX0 2
theorem nmX0 : ∀ a, a < 2 → ∀ b, b < 2 → a ≠ b → (TX0 a).2.1 ≠ (TX0 b).2.1 := by decide +kernel
theorem tyX0_ok : ∀ k, k < 2 → parseFieldDescriptor (TX0 k).2.2.1 = some (tyX0 k) := by decide +kernel
abbrev cX0_init : ByteArray := prog_2_method_1_code
def yX0_init : MethodName := ⟨RX0, "<init>", "()V"⟩
abbrev cX0_record : ByteArray := prog_2_method_2_code
def yX0_record : MethodName := ⟨RX0, "record", "(LBendOrders$State;)V"⟩
abbrev cX0_takeBack : ByteArray := prog_2_method_3_code
def yX0_takeBack : MethodName := ⟨RX0, "takeBack", "(LBendOrders$State;)V"⟩
abbrev cX0_dropOldest : ByteArray := prog_2_method_4_code
def yX0_dropOldest : MethodName := ⟨RX0, "dropOldest", "()V"⟩
abbrev cX0_rowAt : ByteArray := prog_2_method_5_code
def yX0_rowAt : MethodName := ⟨RX0, "rowAt", "(I)LBendOrders$State;"⟩
def RX1 : String := "BendOrders$Plan"
def TX1 : u_T := fun k => match k with
  | 0 => ("BendOrders$Plan", "press", "LBendOrders$Press;", true)
  | 1 => ("BendOrders$Plan", "planned", "LBendOrders$State;", true)
  | 2 => ("BendOrders$Plan", "made", "Z", false)
  | 3 => ("BendOrders$Plan", "ways", "[I", true)
  | 4 => ("BendOrders$Plan", "steps", "[I", true)
  | _ => ("BendOrders$Plan", "reached", "[Z", true)
def tyX1 : Nat → FieldType := fun k => match k with
  | 0 => .object "BendOrders$Press"
  | 1 => .object "BendOrders$State"
  | 2 => .boolean
  | 3 => .array .int
  | 4 => .array .int
  | _ => .array .boolean
abbrev wsX10 : List Cond := u_ws RX1 TX1 6
theorem nmX1 : ∀ a, a < 6 → ∀ b, b < 6 → a ≠ b → (TX1 a).2.1 ≠ (TX1 b).2.1 := by decide +kernel
theorem tyX1_ok : ∀ k, k < 6 → parseFieldDescriptor (TX1 k).2.2.1 = some (tyX1 k) := by decide +kernel
abbrev cX1_init : ByteArray := prog_3_method_1_code
def yX1_init : MethodName := ⟨RX1, "<init>", "()V"⟩
abbrev cX1_prepare : ByteArray := prog_3_method_2_code
def yX1_prepare : MethodName := ⟨RX1, "prepare", "(LBendOrders$State;)V"⟩
abbrev cX1_fillRow : ByteArray := prog_3_method_3_code
def yX1_fillRow : MethodName := ⟨RX1, "fillRow", "(II)V"⟩
abbrev cX1_waysFrom : ByteArray := prog_3_method_4_code
def yX1_waysFrom : MethodName := ⟨RX1, "waysFrom", "(I)I"⟩
abbrev cX1_stepsFrom : ByteArray := prog_3_method_5_code
def yX1_stepsFrom : MethodName := ⟨RX1, "stepsFrom", "(I)I"⟩
abbrev cX1_firstStep : ByteArray := prog_3_method_6_code
def yX1_firstStep : MethodName := ⟨RX1, "firstStep", "(I)I"⟩
abbrev cX1_turnings : ByteArray := prog_3_method_7_code
def yX1_turnings : MethodName := ⟨RX1, "turnings", "(IZ)I"⟩
abbrev cX1_canPrecede : ByteArray := prog_3_method_8_code
def yX1_canPrecede : MethodName := ⟨RX1, "canPrecede", "(III)Z"⟩
abbrev cX1_reachFrom : ByteArray := prog_3_method_9_code
def yX1_reachFrom : MethodName := ⟨RX1, "reachFrom", "(II)V"⟩
def RX2 : String := "BendOrders$Press"
def TX2 : u_T := fun k => match k with
  | _ => ("BendOrders$Press", "shape", "LBendOrders$Shape;", true)
def tyX2 : Nat → FieldType := fun k => match k with
  | _ => .object "BendOrders$Shape"
abbrev wsX20 : List Cond := u_ws RX2 TX2 1
theorem nmX2 : ∀ a, a < 1 → ∀ b, b < 1 → a ≠ b → (TX2 a).2.1 ≠ (TX2 b).2.1 := by decide +kernel
theorem tyX2_ok : ∀ k, k < 1 → parseFieldDescriptor (TX2 k).2.2.1 = some (tyX2 k) := by decide +kernel
abbrev cX2_init : ByteArray := prog_4_method_1_code
def yX2_init : MethodName := ⟨RX2, "<init>", "()V"⟩
abbrev cX2_reason : ByteArray := prog_4_method_2_code
def yX2_reason : MethodName := ⟨RX2, "reason", "(LBendOrders$State;IIZ)I"⟩
abbrev cX2_upperStrikers : ByteArray := prog_4_method_3_code
def yX2_upperStrikers : MethodName := ⟨RX2, "upperStrikers", "(LBendOrders$State;IIZ)I"⟩
abbrev cX2_farEnd : ByteArray := prog_4_method_4_code
def yX2_farEnd : MethodName := ⟨RX2, "farEnd", "(LBendOrders$State;IIZ)I"⟩
abbrev cX2_inUpper : ByteArray := prog_4_method_5_code
def yX2_inUpper : MethodName := ⟨RX2, "inUpper", "(LBendOrders$State;)I"⟩
abbrev cX2_inLower : ByteArray := prog_4_method_6_code
def yX2_inLower : MethodName := ⟨RX2, "inLower", "()I"⟩
def RX3 : String := "BendOrders$Shape"
def TX3 : u_T := fun k => match k with
  | 0 => ("BendOrders$Shape", "flanges", "I", false)
  | 1 => ("BendOrders$Shape", "x", "I", false)
  | 2 => ("BendOrders$Shape", "y", "I", false)
  | 3 => ("BendOrders$Shape", "stepX", "I", false)
  | 4 => ("BendOrders$Shape", "stepY", "I", false)
  | 5 => ("BendOrders$Shape", "left", "[I", true)
  | 6 => ("BendOrders$Shape", "right", "[I", true)
  | 7 => ("BendOrders$Shape", "bottom", "[I", true)
  | 8 => ("BendOrders$Shape", "top", "[I", true)
  | 9 => ("BendOrders$Shape", "farX", "[I", true)
  | _ => ("BendOrders$Shape", "farY", "[I", true)
def tyX3 : Nat → FieldType := fun k => match k with
  | 0 => .int
  | 1 => .int
  | 2 => .int
  | 3 => .int
  | 4 => .int
  | 5 => .array .int
  | 6 => .array .int
  | 7 => .array .int
  | 8 => .array .int
  | 9 => .array .int
  | _ => .array .int
abbrev wsX30 : List Cond := u_ws RX3 TX3 11
theorem nmX3 : ∀ a, a < 11 → ∀ b, b < 11 → a ≠ b → (TX3 a).2.1 ≠ (TX3 b).2.1 := by decide +kernel
theorem tyX3_ok : ∀ k, k < 11 → parseFieldDescriptor (TX3 k).2.2.1 = some (tyX3 k) := by decide +kernel
abbrev cX3_init : ByteArray := prog_5_method_1_code
def yX3_init : MethodName := ⟨RX3, "<init>", "()V"⟩
abbrev cX3_layFlat : ByteArray := prog_5_method_2_code
def yX3_layFlat : MethodName := ⟨RX3, "layFlat", "(LBendOrders$State;IIZ)V"⟩
abbrev cX3_startAtTool : ByteArray := prog_5_method_3_code
def yX3_startAtTool : MethodName := ⟨RX3, "startAtTool", "(I)V"⟩
abbrev cX3_turnAt : ByteArray := prog_5_method_4_code
def yX3_turnAt : MethodName := ⟨RX3, "turnAt", "(IIZ)V"⟩
abbrev cX3_draw : ByteArray := prog_5_method_5_code
def yX3_draw : MethodName := ⟨RX3, "draw", "(II)V"⟩
abbrev cX3_swingUp : ByteArray := prog_5_method_6_code
def yX3_swingUp : MethodName := ⟨RX3, "swingUp", "(I)V"⟩
abbrev cX3_farEndX : ByteArray := prog_5_method_7_code
def yX3_farEndX : MethodName := ⟨RX3, "farEndX", "(I)I"⟩
abbrev cX3_farEndY : ByteArray := prog_5_method_8_code
def yX3_farEndY : MethodName := ⟨RX3, "farEndY", "(I)I"⟩
abbrev cX3_flangesIn : ByteArray := prog_5_method_9_code
def yX3_flangesIn : MethodName := ⟨RX3, "flangesIn", "(IIII)I"⟩
abbrev cX3_strikesItself : ByteArray := prog_5_method_10_code
def yX3_strikesItself : MethodName := ⟨RX3, "strikesItself", "()Z"⟩
def RX4 : String := "BendOrders$State"
def TX4 : u_T := fun k => match k with
  | 0 => ("BendOrders$State", "bends", "I", false)
  | 1 => ("BendOrders$State", "ups", "I", false)
  | 2 => ("BendOrders$State", "done", "I", false)
  | 3 => ("BendOrders$State", "over", "Z", false)
  | 4 => ("BendOrders$State", "bendings", "I", false)
  | 5 => ("BendOrders$State", "lengths", "[I", true)
  | _ => ("BendOrders$State", "settings", "[I", true)
def tyX4 : Nat → FieldType := fun k => match k with
  | 0 => .int
  | 1 => .int
  | 2 => .int
  | 3 => .boolean
  | 4 => .int
  | 5 => .array .int
  | _ => .array .int
abbrev wsX40 : List Cond := u_ws RX4 TX4 7
theorem nmX4 : ∀ a, a < 7 → ∀ b, b < 7 → a ≠ b → (TX4 a).2.1 ≠ (TX4 b).2.1 := by decide +kernel
theorem tyX4_ok : ∀ k, k < 7 → parseFieldDescriptor (TX4 k).2.2.1 = some (tyX4 k) := by decide +kernel
abbrev cX4_init : ByteArray := prog_6_method_1_code
def yX4_init : MethodName := ⟨RX4, "<init>", "()V"⟩
abbrev cX4_copyFrom : ByteArray := prog_6_method_2_code
def yX4_copyFrom : MethodName := ⟨RX4, "copyFrom", "(LBendOrders$State;)V"⟩
abbrev cX4_beginStrip : ByteArray := prog_6_method_3_code
def yX4_beginStrip : MethodName := ⟨RX4, "beginStrip", "(I)V"⟩
abbrev cX4_hasBend : ByteArray := prog_6_method_4_code
def yX4_hasBend : MethodName := ⟨RX4, "hasBend", "(I)Z"⟩
abbrev cX4_hasFlange : ByteArray := prog_6_method_5_code
def yX4_hasFlange : MethodName := ⟨RX4, "hasFlange", "(I)Z"⟩
abbrev cX4_isUp : ByteArray := prog_6_method_6_code
def yX4_isUp : MethodName := ⟨RX4, "isUp", "(I)Z"⟩
abbrev cX4_isDone : ByteArray := prog_6_method_7_code
def yX4_isDone : MethodName := ⟨RX4, "isDone", "(I)Z"⟩
abbrev cX4_putUp : ByteArray := prog_6_method_8_code
def yX4_putUp : MethodName := ⟨RX4, "putUp", "(IZ)V"⟩
abbrev cX4_doBend : ByteArray := prog_6_method_9_code
def yX4_doBend : MethodName := ⟨RX4, "doBend", "(I)V"⟩
abbrev cX4_allBends : ByteArray := prog_6_method_10_code
def yX4_allBends : MethodName := ⟨RX4, "allBends", "()I"⟩
abbrev cX4_doneBends : ByteArray := prog_6_method_11_code
def yX4_doneBends : MethodName := ⟨RX4, "doneBends", "()I"⟩
abbrev cX4_openBends : ByteArray := prog_6_method_12_code
def yX4_openBends : MethodName := ⟨RX4, "openBends", "()I"⟩
abbrev cX4_lengthAt : ByteArray := prog_6_method_13_code
def yX4_lengthAt : MethodName := ⟨RX4, "lengthAt", "(I)I"⟩
abbrev cX4_putLength : ByteArray := prog_6_method_14_code
def yX4_putLength : MethodName := ⟨RX4, "putLength", "(II)V"⟩
abbrev cX4_settingAt : ByteArray := prog_6_method_15_code
def yX4_settingAt : MethodName := ⟨RX4, "settingAt", "(I)I"⟩
abbrev cX4_putSetting : ByteArray := prog_6_method_16_code
def yX4_putSetting : MethodName := ⟨RX4, "putSetting", "(II)V"⟩
abbrev cX4_wholeLength : ByteArray := prog_6_method_17_code
def yX4_wholeLength : MethodName := ⟨RX4, "wholeLength", "()I"⟩
abbrev cX4_degrees : ByteArray := prog_6_method_18_code
def yX4_degrees : MethodName := ⟨RX4, "degrees", "(I)I"⟩
abbrev cX4_clampedLength : ByteArray := prog_6_method_19_code
def yX4_clampedLength : MethodName := ⟨RX4, "clampedLength", "(II)I"⟩
abbrev cX4_bendsLike : ByteArray := prog_6_method_20_code
def yX4_bendsLike : MethodName := ⟨RX4, "bendsLike", "(LBendOrders$State;)Z"⟩
def RX5 : String := "BendOrders$Text"
def TX5 : u_T := fun k => match k with
  | 0 => ("BendOrders$Text", "size", "I", false)
  | _ => ("BendOrders$Text", "signs", "[C", true)
def tyX5 : Nat → FieldType := fun k => match k with
  | 0 => .int
  | _ => .array .char
abbrev wsX50 : List Cond := u_ws RX5 TX5 2
theorem nmX5 : ∀ a, a < 2 → ∀ b, b < 2 → a ≠ b → (TX5 a).2.1 ≠ (TX5 b).2.1 := by decide +kernel
theorem tyX5_ok : ∀ k, k < 2 → parseFieldDescriptor (TX5 k).2.2.1 = some (tyX5 k) := by decide +kernel
abbrev cX5_init : ByteArray := prog_7_method_1_code
def yX5_init : MethodName := ⟨RX5, "<init>", "()V"⟩
abbrev cX5_append : ByteArray := prog_7_method_2_code
def yX5_append : MethodName := ⟨RX5, "append", "(C)V"⟩
abbrev cX5_signAt : ByteArray := prog_7_method_3_code
def yX5_signAt : MethodName := ⟨RX5, "signAt", "(I)C"⟩
abbrev cX5_pairs : ByteArray := prog_7_method_4_code
def yX5_pairs : MethodName := ⟨RX5, "pairs", "()I"⟩
abbrev cX5_fault : ByteArray := prog_7_method_5_code
def yX5_fault : MethodName := ⟨RX5, "fault", "()I"⟩
abbrev cX5_isAllowed : ByteArray := prog_7_method_6_code
def yX5_isAllowed : MethodName := ⟨RX5, "isAllowed", "(I)Z"⟩
def RX6 : String := "BendOrders"
def TX6 : u_T := fun k => match k with
  | 0 => ("BendOrders", "now", "LBendOrders$State;", true)
  | 1 => ("BendOrders", "snapshot", "LBendOrders$State;", true)
  | 2 => ("BendOrders", "kept", "Z", false)
  | 3 => ("BendOrders", "history", "LBendOrders$History;", true)
  | 4 => ("BendOrders", "text", "LBendOrders$Text;", true)
  | 5 => ("BendOrders", "press", "LBendOrders$Press;", true)
  | _ => ("BendOrders", "plan", "LBendOrders$Plan;", true)
def tyX6 : Nat → FieldType := fun k => match k with
  | 0 => .object "BendOrders$State"
  | 1 => .object "BendOrders$State"
  | 2 => .boolean
  | 3 => .object "BendOrders$History"
  | 4 => .object "BendOrders$Text"
  | 5 => .object "BendOrders$Press"
  | _ => .object "BendOrders$Plan"
abbrev wsX60 : List Cond := u_ws RX6 TX6 7
theorem nmX6 : ∀ a, a < 7 → ∀ b, b < 7 → a ≠ b → (TX6 a).2.1 ≠ (TX6 b).2.1 := by decide +kernel
theorem tyX6_ok : ∀ k, k < 7 → parseFieldDescriptor (TX6 k).2.2.1 = some (tyX6 k) := by decide +kernel
abbrev cX6_init : ByteArray := prog_1_method_1_code
def yX6_init : MethodName := ⟨RX6, "<init>", "()V"⟩
abbrev cX6_takeStrip : ByteArray := prog_1_method_2_code
def yX6_takeStrip : MethodName := ⟨RX6, "takeStrip", "()I"⟩
abbrev cX6_setLength : ByteArray := prog_1_method_3_code
def yX6_setLength : MethodName := ⟨RX6, "setLength", "(II)I"⟩
abbrev cX6_setUp : ByteArray := prog_1_method_4_code
def yX6_setUp : MethodName := ⟨RX6, "setUp", "(IZ)I"⟩
abbrev cX6_set : ByteArray := prog_1_method_5_code
def yX6_set : MethodName := ⟨RX6, "set", "(II)I"⟩
abbrev cX6_mayBeSet : ByteArray := prog_1_method_6_code
def yX6_mayBeSet : MethodName := ⟨RX6, "mayBeSet", "(II)Z"⟩
abbrev cX6_layOver : ByteArray := prog_1_method_7_code
def yX6_layOver : MethodName := ⟨RX6, "layOver", "()I"⟩
abbrev cX6_bend : ByteArray := prog_1_method_8_code
def yX6_bend : MethodName := ⟨RX6, "bend", "(I)I"⟩
abbrev cX6_flatten : ByteArray := prog_1_method_9_code
def yX6_flatten : MethodName := ⟨RX6, "flatten", "(I)I"⟩
abbrev cX6_follow : ByteArray := prog_1_method_10_code
def yX6_follow : MethodName := ⟨RX6, "follow", "(I)I"⟩
abbrev cX6_type : ByteArray := prog_1_method_11_code
def yX6_type : MethodName := ⟨RX6, "type", "(C)I"⟩
abbrev cX6_clearText : ByteArray := prog_1_method_12_code
def yX6_clearText : MethodName := ⟨RX6, "clearText", "()I"⟩
abbrev cX6_undo : ByteArray := prog_1_method_13_code
def yX6_undo : MethodName := ⟨RX6, "undo", "()I"⟩
abbrev cX6_keep : ByteArray := prog_1_method_14_code
def yX6_keep : MethodName := ⟨RX6, "keep", "()I"⟩
abbrev cX6_restore : ByteArray := prog_1_method_15_code
def yX6_restore : MethodName := ⟨RX6, "restore", "()I"⟩
abbrev cX6_ofBend : ByteArray := prog_1_method_16_code
def yX6_ofBend : MethodName := ⟨RX6, "ofBend", "(II)I"⟩
abbrev cX6_lengthOf : ByteArray := prog_1_method_17_code
def yX6_lengthOf : MethodName := ⟨RX6, "lengthOf", "(I)I"⟩
abbrev cX6_end : ByteArray := prog_1_method_18_code
def yX6_end : MethodName := ⟨RX6, "end", "(IIZ)I"⟩
abbrev cX6_strikers : ByteArray := prog_1_method_19_code
def yX6_strikers : MethodName := ⟨RX6, "strikers", "(I)I"⟩
abbrev cX6_order : ByteArray := prog_1_method_20_code
def yX6_order : MethodName := ⟨RX6, "order", "(I)I"⟩
abbrev cX6_orders : ByteArray := prog_1_method_21_code
def yX6_orders : MethodName := ⟨RX6, "orders", "()I"⟩
abbrev cX6_mustWait : ByteArray := prog_1_method_22_code
def yX6_mustWait : MethodName := ⟨RX6, "mustWait", "(II)I"⟩
abbrev cX6_count : ByteArray := prog_1_method_23_code
def yX6_count : MethodName := ⟨RX6, "count", "(I)I"⟩
abbrev cX6_possibleNow : ByteArray := prog_1_method_24_code
def yX6_possibleNow : MethodName := ⟨RX6, "possibleNow", "()I"⟩
abbrev cX6_hasOrder : ByteArray := prog_1_method_25_code
def yX6_hasOrder : MethodName := ⟨RX6, "hasOrder", "()Z"⟩
abbrev cX6_isOpen : ByteArray := prog_1_method_26_code
def yX6_isOpen : MethodName := ⟨RX6, "isOpen", "(I)Z"⟩
abbrev cX6_asNumber : ByteArray := prog_1_method_27_code
def yX6_asNumber : MethodName := ⟨RX6, "asNumber", "(Z)I"⟩
def RX7 : String := "BendOrdersModel"
def TX7 : u_T := fun k => match k with
  | 0 => ("BendOrdersModel", "s", "[I", true)
  | 1 => ("BendOrdersModel", "before", "[I", true)
  | 2 => ("BendOrdersModel", "known", "I", false)
  | 3 => ("BendOrdersModel", "kept", "[I", true)
  | 4 => ("BendOrdersModel", "isKept", "Z", false)
  | 5 => ("BendOrdersModel", "text", "[I", true)
  | 6 => ("BendOrdersModel", "typed", "I", false)
  | 7 => ("BendOrdersModel", "x", "[I", true)
  | 8 => ("BendOrdersModel", "y", "[I", true)
  | 9 => ("BendOrdersModel", "of", "[I", true)
  | 10 => ("BendOrdersModel", "points", "I", false)
  | 11 => ("BendOrdersModel", "next", "[I", true)
  | _ => ("BendOrdersModel", "ways", "[I", true)
def tyX7 : Nat → FieldType := fun k => match k with
  | 0 => .array .int
  | 1 => .array .int
  | 2 => .int
  | 3 => .array .int
  | 4 => .boolean
  | 5 => .array .int
  | 6 => .int
  | 7 => .array .int
  | 8 => .array .int
  | 9 => .array .int
  | 10 => .int
  | 11 => .array .int
  | _ => .array .int
abbrev wsX70 : List Cond := u_ws RX7 TX7 13
theorem nmX7 : ∀ a, a < 13 → ∀ b, b < 13 → a ≠ b → (TX7 a).2.1 ≠ (TX7 b).2.1 := by decide +kernel
theorem tyX7_ok : ∀ k, k < 13 → parseFieldDescriptor (TX7 k).2.2.1 = some (tyX7 k) := by decide +kernel
abbrev cX7_init : ByteArray := prog_9_method_1_code
def yX7_init : MethodName := ⟨RX7, "<init>", "()V"⟩
abbrev cX7_in : ByteArray := prog_9_method_3_code
def yX7_in : MethodName := ⟨RX7, "in", "(III)Z"⟩
abbrev cX7_isBend : ByteArray := prog_9_method_4_code
def yX7_isBend : MethodName := ⟨RX7, "isBend", "(I)Z"⟩
abbrev cX7_isFlange : ByteArray := prog_9_method_5_code
def yX7_isFlange : MethodName := ⟨RX7, "isFlange", "(I)Z"⟩
abbrev cX7_has : ByteArray := prog_9_method_6_code
def yX7_has : MethodName := ⟨RX7, "has", "(II)Z"⟩
abbrev cX7_many : ByteArray := prog_9_method_7_code
def yX7_many : MethodName := ⟨RX7, "many", "(I)I"⟩
abbrev cX7_know : ByteArray := prog_9_method_8_code
def yX7_know : MethodName := ⟨RX7, "know", "()V"⟩
abbrev cX7_isUp : ByteArray := prog_9_method_9_code
def yX7_isUp : MethodName := ⟨RX7, "isUp", "(II)Z"⟩
abbrev cX7_laySide : ByteArray := prog_9_method_10_code
def yX7_laySide : MethodName := ⟨RX7, "laySide", "(IZII)V"⟩
abbrev cX7_lay : ByteArray := prog_9_method_11_code
def yX7_lay : MethodName := ⟨RX7, "lay", "(III)V"⟩
abbrev cX7_swing : ByteArray := prog_9_method_12_code
def yX7_swing : MethodName := ⟨RX7, "swing", "(I)V"⟩
abbrev cX7_strike : ByteArray := prog_9_method_13_code
def yX7_strike : MethodName := ⟨RX7, "strike", "(Z)I"⟩
abbrev cX7_strikesItself : ByteArray := prog_9_method_14_code
def yX7_strikesItself : MethodName := ⟨RX7, "strikesItself", "()Z"⟩
abbrev cX7_clamped : ByteArray := prog_9_method_15_code
def yX7_clamped : MethodName := ⟨RX7, "clamped", "(II)I"⟩
abbrev cX7_reason : ByteArray := prog_9_method_16_code
def yX7_reason : MethodName := ⟨RX7, "reason", "(III)I"⟩
abbrev cX7_all : ByteArray := prog_9_method_17_code
def yX7_all : MethodName := ⟨RX7, "all", "()I"⟩
abbrev cX7_findNext : ByteArray := prog_9_method_18_code
def yX7_findNext : MethodName := ⟨RX7, "findNext", "()V"⟩
abbrev cX7_countOrders : ByteArray := prog_9_method_19_code
def yX7_countOrders : MethodName := ⟨RX7, "countOrders", "(II)I"⟩
abbrev cX7_allOrders : ByteArray := prog_9_method_20_code
def yX7_allOrders : MethodName := ⟨RX7, "allOrders", "()I"⟩
abbrev cX7_nextOf : ByteArray := prog_9_method_21_code
def yX7_nextOf : MethodName := ⟨RX7, "nextOf", "(I)I"⟩
abbrev cX7_turnings : ByteArray := prog_9_method_22_code
def yX7_turnings : MethodName := ⟨RX7, "turnings", "()I"⟩
abbrev cX7_puts : ByteArray := prog_9_method_23_code
def yX7_puts : MethodName := ⟨RX7, "puts", "(II)I"⟩
abbrev cX7_setLength : ByteArray := prog_9_method_24_code
def yX7_setLength : MethodName := ⟨RX7, "setLength", "(II)I"⟩
abbrev cX7_setUp : ByteArray := prog_9_method_25_code
def yX7_setUp : MethodName := ⟨RX7, "setUp", "(IZ)I"⟩
abbrev cX7_set : ByteArray := prog_9_method_26_code
def yX7_set : MethodName := ⟨RX7, "set", "(II)I"⟩
abbrev cX7_layOver : ByteArray := prog_9_method_27_code
def yX7_layOver : MethodName := ⟨RX7, "layOver", "()I"⟩
abbrev cX7_does : ByteArray := prog_9_method_28_code
def yX7_does : MethodName := ⟨RX7, "does", "(I)I"⟩
abbrev cX7_bend : ByteArray := prog_9_method_29_code
def yX7_bend : MethodName := ⟨RX7, "bend", "(I)I"⟩
abbrev cX7_flatten : ByteArray := prog_9_method_30_code
def yX7_flatten : MethodName := ⟨RX7, "flatten", "(I)I"⟩
abbrev cX7_follow : ByteArray := prog_9_method_31_code
def yX7_follow : MethodName := ⟨RX7, "follow", "(I)I"⟩
abbrev cX7_type : ByteArray := prog_9_method_32_code
def yX7_type : MethodName := ⟨RX7, "type", "(C)I"⟩
abbrev cX7_clearText : ByteArray := prog_9_method_33_code
def yX7_clearText : MethodName := ⟨RX7, "clearText", "()I"⟩
abbrev cX7_fault : ByteArray := prog_9_method_34_code
def yX7_fault : MethodName := ⟨RX7, "fault", "()I"⟩
abbrev cX7_takeStrip : ByteArray := prog_9_method_35_code
def yX7_takeStrip : MethodName := ⟨RX7, "takeStrip", "()I"⟩
abbrev cX7_undo : ByteArray := prog_9_method_36_code
def yX7_undo : MethodName := ⟨RX7, "undo", "()I"⟩
abbrev cX7_keep : ByteArray := prog_9_method_37_code
def yX7_keep : MethodName := ⟨RX7, "keep", "()I"⟩
abbrev cX7_restore : ByteArray := prog_9_method_38_code
def yX7_restore : MethodName := ⟨RX7, "restore", "()I"⟩
abbrev cX7_degrees : ByteArray := prog_9_method_39_code
def yX7_degrees : MethodName := ⟨RX7, "degrees", "(I)I"⟩
abbrev cX7_ofBend : ByteArray := prog_9_method_40_code
def yX7_ofBend : MethodName := ⟨RX7, "ofBend", "(II)I"⟩
abbrev cX7_lengthOf : ByteArray := prog_9_method_41_code
def yX7_lengthOf : MethodName := ⟨RX7, "lengthOf", "(I)I"⟩
abbrev cX7_end : ByteArray := prog_9_method_42_code
def yX7_end : MethodName := ⟨RX7, "end", "(IIZ)I"⟩
abbrev cX7_strikers : ByteArray := prog_9_method_43_code
def yX7_strikers : MethodName := ⟨RX7, "strikers", "(I)I"⟩
abbrev cX7_order : ByteArray := prog_9_method_44_code
def yX7_order : MethodName := ⟨RX7, "order", "(I)I"⟩
abbrev cX7_orders : ByteArray := prog_9_method_45_code
def yX7_orders : MethodName := ⟨RX7, "orders", "()I"⟩
abbrev cX7_mustWait : ByteArray := prog_9_method_46_code
def yX7_mustWait : MethodName := ⟨RX7, "mustWait", "(II)I"⟩
abbrev cX7_canNow : ByteArray := prog_9_method_47_code
def yX7_canNow : MethodName := ⟨RX7, "canNow", "()I"⟩
abbrev cX7_wholeLength : ByteArray := prog_9_method_48_code
def yX7_wholeLength : MethodName := ⟨RX7, "wholeLength", "()I"⟩
abbrev cX7_count : ByteArray := prog_9_method_49_code
def yX7_count : MethodName := ⟨RX7, "count", "(I)I"⟩
def RJ6 : String := "java/lang/Integer"
def TJ6 : u_T := fun k => match k with
  | _ => ("", "", "", false)
def tyJ6 : Nat → FieldType := fun k => match k with
  | _ => .int
abbrev wsJ60 : List Cond := u_ws RJ6 TJ6 0
theorem nmJ6 : ∀ a, a < 0 → ∀ b, b < 0 → a ≠ b → (TJ6 a).2.1 ≠ (TJ6 b).2.1 := by decide +kernel
theorem tyJ6_ok : ∀ k, k < 0 → parseFieldDescriptor (TJ6 k).2.2.1 = some (tyJ6 k) := by decide +kernel
abbrev cJ6_bitCount_0f7a4 : ByteArray := prog_10_method_49_code
def yJ6_bitCount_0f7a4 : MethodName := ⟨RJ6, "bitCount", "(I)I"⟩
def RJ9 : String := "java/lang/Math"
def TJ9 : u_T := fun k => match k with
  | _ => ("", "", "", false)
def tyJ9 : Nat → FieldType := fun k => match k with
  | _ => .int
abbrev wsJ90 : List Cond := u_ws RJ9 TJ9 0
theorem nmJ9 : ∀ a, a < 0 → ∀ b, b < 0 → a ≠ b → (TJ9 a).2.1 ≠ (TJ9 b).2.1 := by decide +kernel
theorem tyJ9_ok : ∀ k, k < 0 → parseFieldDescriptor (TJ9 k).2.2.1 = some (tyJ9 k) := by decide +kernel
abbrev cJ9_max_7cf53 : ByteArray := prog_11_method_65_code
def yJ9_max_7cf53 : MethodName := ⟨RJ9, "max", "(II)I"⟩
abbrev cJ9_min_7cf53 : ByteArray := prog_11_method_69_code
def yJ9_min_7cf53 : MethodName := ⟨RJ9, "min", "(II)I"⟩
def RJ10 : String := "java/lang/System"
def TJ10 : u_T := fun k => match k with
  | _ => ("", "", "", false)
def tyJ10 : Nat → FieldType := fun k => match k with
  | _ => .int
abbrev wsJ100 : List Cond := u_ws RJ10 TJ10 0
theorem nmJ10 : ∀ a, a < 0 → ∀ b, b < 0 → a ≠ b → (TJ10 a).2.1 ≠ (TJ10 b).2.1 := by decide +kernel
theorem tyJ10_ok : ∀ k, k < 0 → parseFieldDescriptor (TJ10 k).2.2.1 = some (tyJ10 k) := by decide +kernel
def RL : String := "BendOrdersLaw"
abbrev cL_law : ByteArray := code
def yL_law : MethodName := ⟨RL, "law", "([I)Z"⟩
def wsX4_init : List Cond := .code yX4_init cX4_init 1 none :: ([.methodLink RX4 3 objectInit, .instanceMethod objectInit, .code objectInit ⟨#[0xb1]⟩ 1 none, .fieldLink RX4 9 "BendOrders$State" "bends" "I", .fieldLink RX4 15 "BendOrders$State" "ups" "I", .fieldLink RX4 18 "BendOrders$State" "done" "I", .fieldLink RX4 21 "BendOrders$State" "over" "Z", .fieldLink RX4 25 "BendOrders$State" "bendings" "I", .arrayClass .int, .fieldLink RX4 28 "BendOrders$State" "lengths" "[I", .fieldLink RX4 35 "BendOrders$State" "settings" "[I", .methodLink RX4 38 arraycopyName, .native arraycopyName, .static arraycopyName, .initialized "java/lang/System"] ++ wsX40)
def wsX0_init : List Cond := .code yX0_init cX0_init 2 none :: ([.methodLink RX0 3 objectInit, .instanceMethod objectInit, .code objectInit ⟨#[0xb1]⟩ 1 none, .fieldLink RX0 9 "BendOrders$History" "size" "I", .classLink RX0 15 RX4, .fieldLink RX0 17 "BendOrders$History" "states" "[LBendOrders$State;", .instantiable RX4 7, .initialized RX4, .methodLink RX0 21 yX4_init, .instanceMethod yX4_init, .code yX4_init cX4_init 1 none, .methodLink RX4 3 objectInit, .fieldLink RX4 9 "BendOrders$State" "bends" "I", .fieldLink RX4 15 "BendOrders$State" "ups" "I", .fieldLink RX4 18 "BendOrders$State" "done" "I", .fieldLink RX4 21 "BendOrders$State" "over" "Z", .fieldLink RX4 25 "BendOrders$State" "bendings" "I", .arrayClass .int, .fieldLink RX4 28 "BendOrders$State" "lengths" "[I", .fieldLink RX4 35 "BendOrders$State" "settings" "[I", .methodLink RX4 38 arraycopyName, .native arraycopyName, .static arraycopyName, .initialized "java/lang/System"] ++ wsX00 ++ wsX40)
def wsX0_rowAt : List Cond := .code yX0_rowAt cX0_rowAt 2 (some (.object "BendOrders$State")) :: ([.fieldLink RX0 17 "BendOrders$History" "states" "[LBendOrders$State;"] ++ wsX00)
def wsX0_dropOldest : List Cond := .code yX0_dropOldest cX0_dropOldest 3 none :: ([.fieldLink RX0 17 "BendOrders$History" "states" "[LBendOrders$State;", .fieldLink RX0 9 "BendOrders$History" "size" "I", .methodLink RX0 25 yX0_rowAt, .instanceMethod yX0_rowAt, .selects RX0 yX0_rowAt yX0_rowAt, .initialized RX0, .code yX0_rowAt cX0_rowAt 2 (some (.object "BendOrders$State"))] ++ wsX00)
def wsX4_copyFrom : List Cond := .code yX4_copyFrom cX4_copyFrom 2 none :: ([.fieldLink RX4 9 "BendOrders$State" "bends" "I", .fieldLink RX4 15 "BendOrders$State" "ups" "I", .fieldLink RX4 18 "BendOrders$State" "done" "I", .fieldLink RX4 21 "BendOrders$State" "over" "Z", .fieldLink RX4 25 "BendOrders$State" "bendings" "I", .fieldLink RX4 28 "BendOrders$State" "lengths" "[I", .methodLink RX4 38 arraycopyName, .native arraycopyName, .static arraycopyName, .initialized "java/lang/System", .fieldLink RX4 35 "BendOrders$State" "settings" "[I"] ++ wsX40)
def wsX0_record_r1 : List Cond := [Cond.fieldLink RX0 9 "BendOrders$History" "size" "I", Cond.fieldLink RX0 17 "BendOrders$History" "states" "[LBendOrders$State;", Cond.methodLink RX0 22 yX0_dropOldest, Cond.instanceMethod yX0_dropOldest, Cond.selects RX0 yX0_dropOldest yX0_dropOldest, Cond.initialized RX0, Cond.code yX0_dropOldest cX0_dropOldest 3 none, Cond.methodLink RX0 25 yX0_rowAt, Cond.instanceMethod yX0_rowAt, Cond.selects RX0 yX0_rowAt yX0_rowAt, Cond.code yX0_rowAt cX0_rowAt 2 (some (.object "BendOrders$State")), Cond.methodLink RX0 29 yX4_copyFrom, Cond.instanceMethod yX4_copyFrom, Cond.selects RX4 yX4_copyFrom yX4_copyFrom, Cond.initialized RX4, Cond.code yX4_copyFrom cX4_copyFrom 2 none, Cond.fieldLink RX4 9 "BendOrders$State" "bends" "I", Cond.fieldLink RX4 15 "BendOrders$State" "ups" "I", Cond.fieldLink RX4 18 "BendOrders$State" "done" "I", Cond.fieldLink RX4 21 "BendOrders$State" "over" "Z", Cond.fieldLink RX4 25 "BendOrders$State" "bendings" "I", Cond.fieldLink RX4 28 "BendOrders$State" "lengths" "[I", Cond.methodLink RX4 38 arraycopyName, Cond.native arraycopyName]
def wsX0_record_r2 : List Cond := [Cond.static arraycopyName, Cond.initialized "java/lang/System", Cond.fieldLink RX4 35 "BendOrders$State" "settings" "[I"]
def wsX0_record : List Cond := .code yX0_record cX0_record 3 none :: ((wsX0_record_r1 ++ wsX0_record_r2) ++ wsX00 ++ wsX40)
def wsX0_takeBack : List Cond := .code yX0_takeBack cX0_takeBack 3 none :: ([.fieldLink RX0 9 "BendOrders$History" "size" "I", .methodLink RX0 25 yX0_rowAt, .instanceMethod yX0_rowAt, .selects RX0 yX0_rowAt yX0_rowAt, .initialized RX0, .code yX0_rowAt cX0_rowAt 2 (some (.object "BendOrders$State")), .fieldLink RX0 17 "BendOrders$History" "states" "[LBendOrders$State;", .methodLink RX0 29 yX4_copyFrom, .instanceMethod yX4_copyFrom, .selects RX4 yX4_copyFrom yX4_copyFrom, .initialized RX4, .code yX4_copyFrom cX4_copyFrom 2 none, .fieldLink RX4 9 "BendOrders$State" "bends" "I", .fieldLink RX4 15 "BendOrders$State" "ups" "I", .fieldLink RX4 18 "BendOrders$State" "done" "I", .fieldLink RX4 21 "BendOrders$State" "over" "Z", .fieldLink RX4 25 "BendOrders$State" "bendings" "I", .fieldLink RX4 28 "BendOrders$State" "lengths" "[I", .methodLink RX4 38 arraycopyName, .native arraycopyName, .static arraycopyName, .initialized "java/lang/System", .fieldLink RX4 35 "BendOrders$State" "settings" "[I"] ++ wsX00 ++ wsX40)
def wsX3_init : List Cond := .code yX3_init cX3_init 1 none :: ([.methodLink RX3 3 objectInit, .instanceMethod objectInit, .code objectInit ⟨#[0xb1]⟩ 1 none, .arrayClass .int, .fieldLink RX3 9 "BendOrders$Shape" "left" "[I", .fieldLink RX3 15 "BendOrders$Shape" "right" "[I", .fieldLink RX3 18 "BendOrders$Shape" "bottom" "[I", .fieldLink RX3 21 "BendOrders$Shape" "top" "[I", .fieldLink RX3 24 "BendOrders$Shape" "farX" "[I", .fieldLink RX3 27 "BendOrders$Shape" "farY" "[I"] ++ wsX30)
def wsX2_init : List Cond := .code yX2_init cX2_init 1 none :: ([.methodLink RX2 3 objectInit, .instanceMethod objectInit, .code objectInit ⟨#[0xb1]⟩ 1 none, .classLink RX2 9 RX3, .instantiable RX3 11, .initialized RX3, .fieldLink RX2 12 "BendOrders$Press" "shape" "LBendOrders$Shape;", .methodLink RX2 11 yX3_init, .instanceMethod yX3_init, .code yX3_init cX3_init 1 none, .methodLink RX3 3 objectInit, .arrayClass .int, .fieldLink RX3 9 "BendOrders$Shape" "left" "[I", .fieldLink RX3 15 "BendOrders$Shape" "right" "[I", .fieldLink RX3 18 "BendOrders$Shape" "bottom" "[I", .fieldLink RX3 21 "BendOrders$Shape" "top" "[I", .fieldLink RX3 24 "BendOrders$Shape" "farX" "[I", .fieldLink RX3 27 "BendOrders$Shape" "farY" "[I"] ++ wsX30 ++ wsX20)
def wsX1_init_r1 : List Cond := [Cond.methodLink RX1 3 objectInit, Cond.instanceMethod objectInit, Cond.code objectInit ⟨#[0xb1]⟩ 1 none, Cond.classLink RX1 9 RX2, Cond.instantiable RX2 1, Cond.initialized RX2, Cond.fieldLink RX1 12 "BendOrders$Plan" "press" "LBendOrders$Press;", Cond.classLink RX1 18 RX4, Cond.instantiable RX4 7, Cond.initialized RX4, Cond.fieldLink RX1 21 "BendOrders$Plan" "planned" "LBendOrders$State;", Cond.fieldLink RX1 25 "BendOrders$Plan" "made" "Z", Cond.arrayClass .int, Cond.fieldLink RX1 29 "BendOrders$Plan" "ways" "[I", Cond.fieldLink RX1 33 "BendOrders$Plan" "steps" "[I", Cond.arrayClass .boolean, Cond.fieldLink RX1 36 "BendOrders$Plan" "reached" "[Z", Cond.methodLink RX1 11 yX2_init, Cond.instanceMethod yX2_init, Cond.code yX2_init cX2_init 1 none, Cond.methodLink RX2 3 objectInit, Cond.classLink RX2 9 RX3, Cond.instantiable RX3 11, Cond.initialized RX3]
def wsX1_init_r2 : List Cond := [Cond.fieldLink RX2 12 "BendOrders$Press" "shape" "LBendOrders$Shape;", Cond.methodLink RX2 11 yX3_init, Cond.instanceMethod yX3_init, Cond.code yX3_init cX3_init 1 none, Cond.methodLink RX3 3 objectInit, Cond.fieldLink RX3 9 "BendOrders$Shape" "left" "[I", Cond.fieldLink RX3 15 "BendOrders$Shape" "right" "[I", Cond.fieldLink RX3 18 "BendOrders$Shape" "bottom" "[I", Cond.fieldLink RX3 21 "BendOrders$Shape" "top" "[I", Cond.fieldLink RX3 24 "BendOrders$Shape" "farX" "[I", Cond.fieldLink RX3 27 "BendOrders$Shape" "farY" "[I", Cond.methodLink RX1 20 yX4_init, Cond.instanceMethod yX4_init, Cond.code yX4_init cX4_init 1 none, Cond.methodLink RX4 3 objectInit, Cond.fieldLink RX4 9 "BendOrders$State" "bends" "I", Cond.fieldLink RX4 15 "BendOrders$State" "ups" "I", Cond.fieldLink RX4 18 "BendOrders$State" "done" "I", Cond.fieldLink RX4 21 "BendOrders$State" "over" "Z", Cond.fieldLink RX4 25 "BendOrders$State" "bendings" "I", Cond.fieldLink RX4 28 "BendOrders$State" "lengths" "[I", Cond.fieldLink RX4 35 "BendOrders$State" "settings" "[I", Cond.methodLink RX4 38 arraycopyName, Cond.native arraycopyName]
def wsX1_init_r3 : List Cond := [Cond.static arraycopyName, Cond.initialized "java/lang/System"]
def wsX1_init : List Cond := .code yX1_init cX1_init 1 none :: ((wsX1_init_r1 ++ (wsX1_init_r2 ++ wsX1_init_r3)) ++ wsX20 ++ wsX10 ++ wsX40 ++ wsX30)
def wsX4_lengthAt : List Cond := .code yX4_lengthAt cX4_lengthAt 2 (some .int) :: ([.fieldLink RX4 28 "BendOrders$State" "lengths" "[I"] ++ wsX40)
def wsX4_settingAt : List Cond := .code yX4_settingAt cX4_settingAt 2 (some .int) :: ([.fieldLink RX4 35 "BendOrders$State" "settings" "[I"] ++ wsX40)
def wsX4_bendsLike : List Cond := .code yX4_bendsLike cX4_bendsLike 3 (some .boolean) :: ([.fieldLink RX4 9 "BendOrders$State" "bends" "I", .fieldLink RX4 15 "BendOrders$State" "ups" "I", .methodLink RX4 63 yX4_lengthAt, .instanceMethod yX4_lengthAt, .selects RX4 yX4_lengthAt yX4_lengthAt, .initialized RX4, .code yX4_lengthAt cX4_lengthAt 2 (some .int), .fieldLink RX4 28 "BendOrders$State" "lengths" "[I", .methodLink RX4 66 yX4_settingAt, .instanceMethod yX4_settingAt, .selects RX4 yX4_settingAt yX4_settingAt, .code yX4_settingAt cX4_settingAt 2 (some .int), .fieldLink RX4 35 "BendOrders$State" "settings" "[I"] ++ wsX40)
def wsX4_allBends : List Cond := .code yX4_allBends cX4_allBends 1 (some .int) :: ([.fieldLink RX4 9 "BendOrders$State" "bends" "I"] ++ wsX40)
def wsX1_waysFrom : List Cond := .code yX1_waysFrom cX1_waysFrom 2 (some .int) :: ([.fieldLink RX1 29 "BendOrders$Plan" "ways" "[I"] ++ wsX10)
def wsX4_isUp : List Cond := .code yX4_isUp cX4_isUp 2 (some .boolean) :: ([.fieldLink RX4 15 "BendOrders$State" "ups" "I"] ++ wsX40)
def wsX4_clampedLength : List Cond := .code yX4_clampedLength cX4_clampedLength 5 (some .int) :: ([.fieldLink RX4 9 "BendOrders$State" "bends" "I", .methodLink RX4 63 yX4_lengthAt, .instanceMethod yX4_lengthAt, .selects RX4 yX4_lengthAt yX4_lengthAt, .initialized RX4, .code yX4_lengthAt cX4_lengthAt 2 (some .int), .fieldLink RX4 28 "BendOrders$State" "lengths" "[I"] ++ wsX40)
def wsX3_startAtTool : List Cond := .code yX3_startAtTool cX3_startAtTool 2 none :: ([.fieldLink RX3 65 "BendOrders$Shape" "x" "I", .fieldLink RX3 68 "BendOrders$Shape" "y" "I", .fieldLink RX3 71 "BendOrders$Shape" "stepX" "I", .fieldLink RX3 74 "BendOrders$Shape" "stepY" "I"] ++ wsX30)
def wsX3_turnAt : List Cond := .code yX3_turnAt cX3_turnAt 5 none :: ([.fieldLink RX3 71 "BendOrders$Shape" "stepX" "I", .fieldLink RX3 74 "BendOrders$Shape" "stepY" "I"] ++ wsX30)
def wsX3_draw : List Cond := .code yX3_draw cX3_draw 5 none :: ([.fieldLink RX3 65 "BendOrders$Shape" "x" "I", .fieldLink RX3 68 "BendOrders$Shape" "y" "I", .fieldLink RX3 71 "BendOrders$Shape" "stepX" "I", .fieldLink RX3 74 "BendOrders$Shape" "stepY" "I", .fieldLink RX3 9 "BendOrders$Shape" "left" "[I", .fieldLink RX3 15 "BendOrders$Shape" "right" "[I", .fieldLink RX3 18 "BendOrders$Shape" "bottom" "[I", .fieldLink RX3 21 "BendOrders$Shape" "top" "[I", .fieldLink RX3 24 "BendOrders$Shape" "farX" "[I", .fieldLink RX3 27 "BendOrders$Shape" "farY" "[I"] ++ wsX30)
def wsX3_layFlat_r1 : List Cond := [Cond.fieldLink RX3 30 "BendOrders$State" "bends" "I", Cond.methodLink RX3 36 Lib.Math.min.name, Cond.static Lib.Math.min.name, Cond.initialized "java/lang/Math", Cond.code Lib.Math.min.name Lib.Math.min.code 2 (some .int), Cond.fieldLink RX3 42 "BendOrders$Shape" "flanges" "I", Cond.methodLink RX3 45 yX3_startAtTool, Cond.instanceMethod yX3_startAtTool, Cond.selects RX3 yX3_startAtTool yX3_startAtTool, Cond.initialized RX3, Cond.code yX3_startAtTool cX3_startAtTool 2 none, Cond.fieldLink RX3 65 "BendOrders$Shape" "x" "I", Cond.fieldLink RX3 68 "BendOrders$Shape" "y" "I", Cond.fieldLink RX3 71 "BendOrders$Shape" "stepX" "I", Cond.fieldLink RX3 74 "BendOrders$Shape" "stepY" "I", Cond.methodLink RX3 49 yX4_isUp, Cond.instanceMethod yX4_isUp, Cond.selects RX4 yX4_isUp yX4_isUp, Cond.initialized RX4, Cond.code yX4_isUp cX4_isUp 2 (some .boolean), Cond.fieldLink RX4 15 "BendOrders$State" "ups" "I", Cond.methodLink RX3 53 yX3_turnAt, Cond.instanceMethod yX3_turnAt, Cond.selects RX3 yX3_turnAt yX3_turnAt]
def wsX3_layFlat_r2 : List Cond := [Cond.code yX3_turnAt cX3_turnAt 5 none, Cond.methodLink RX3 57 yX4_lengthAt, Cond.instanceMethod yX4_lengthAt, Cond.selects RX4 yX4_lengthAt yX4_lengthAt, Cond.code yX4_lengthAt cX4_lengthAt 2 (some .int), Cond.fieldLink RX4 28 "BendOrders$State" "lengths" "[I", Cond.methodLink RX3 61 yX3_draw, Cond.instanceMethod yX3_draw, Cond.selects RX3 yX3_draw yX3_draw, Cond.code yX3_draw cX3_draw 5 none, Cond.fieldLink RX3 9 "BendOrders$Shape" "left" "[I", Cond.fieldLink RX3 15 "BendOrders$Shape" "right" "[I", Cond.fieldLink RX3 18 "BendOrders$Shape" "bottom" "[I", Cond.fieldLink RX3 21 "BendOrders$Shape" "top" "[I", Cond.fieldLink RX3 24 "BendOrders$Shape" "farX" "[I", Cond.fieldLink RX3 27 "BendOrders$Shape" "farY" "[I"]
def wsX3_layFlat : List Cond := .code yX3_layFlat cX3_layFlat 7 none :: ((wsX3_layFlat_r1 ++ wsX3_layFlat_r2) ++ wsX40 ++ wsX30)
def wsX3_flangesIn : List Cond := .code yX3_flangesIn cX3_flangesIn 10 (some .int) :: ([.fieldLink RX3 42 "BendOrders$Shape" "flanges" "I", .fieldLink RX3 15 "BendOrders$Shape" "right" "[I", .fieldLink RX3 9 "BendOrders$Shape" "left" "[I", .fieldLink RX3 18 "BendOrders$Shape" "bottom" "[I", .fieldLink RX3 21 "BendOrders$Shape" "top" "[I"] ++ wsX30)
def wsX2_inUpper : List Cond := .code yX2_inUpper cX2_inUpper 6 (some .int) :: ([.fieldLink RX2 12 "BendOrders$Press" "shape" "LBendOrders$Shape;", .methodLink RX2 66 Lib.Math.min.name, .static Lib.Math.min.name, .initialized "java/lang/Math", .code Lib.Math.min.name Lib.Math.min.code 2 (some .int), .methodLink RX2 28 yX4_settingAt, .instanceMethod yX4_settingAt, .selects RX4 yX4_settingAt yX4_settingAt, .initialized RX4, .code yX4_settingAt cX4_settingAt 2 (some .int), .fieldLink RX4 35 "BendOrders$State" "settings" "[I", .methodLink RX2 71 yX3_flangesIn, .instanceMethod yX3_flangesIn, .selects RX3 yX3_flangesIn yX3_flangesIn, .initialized RX3, .code yX3_flangesIn cX3_flangesIn 10 (some .int), .fieldLink RX3 42 "BendOrders$Shape" "flanges" "I", .fieldLink RX3 15 "BendOrders$Shape" "right" "[I", .fieldLink RX3 9 "BendOrders$Shape" "left" "[I", .fieldLink RX3 18 "BendOrders$Shape" "bottom" "[I", .fieldLink RX3 21 "BendOrders$Shape" "top" "[I"] ++ wsX20 ++ wsX40 ++ wsX30)
def wsX2_inLower : List Cond := .code yX2_inLower cX2_inLower 1 (some .int) :: ([.fieldLink RX2 12 "BendOrders$Press" "shape" "LBendOrders$Shape;", .methodLink RX2 71 yX3_flangesIn, .instanceMethod yX3_flangesIn, .selects RX3 yX3_flangesIn yX3_flangesIn, .initialized RX3, .code yX3_flangesIn cX3_flangesIn 10 (some .int), .fieldLink RX3 42 "BendOrders$Shape" "flanges" "I", .fieldLink RX3 15 "BendOrders$Shape" "right" "[I", .fieldLink RX3 9 "BendOrders$Shape" "left" "[I", .fieldLink RX3 18 "BendOrders$Shape" "bottom" "[I", .fieldLink RX3 21 "BendOrders$Shape" "top" "[I"] ++ wsX20 ++ wsX30)
def wsX3_swingUp : List Cond := .code yX3_swingUp cX3_swingUp 5 none :: ([.fieldLink RX3 9 "BendOrders$Shape" "left" "[I", .fieldLink RX3 15 "BendOrders$Shape" "right" "[I", .fieldLink RX3 18 "BendOrders$Shape" "bottom" "[I", .fieldLink RX3 21 "BendOrders$Shape" "top" "[I"] ++ wsX30)
def wsX3_strikesItself : List Cond := .code yX3_strikesItself cX3_strikesItself 3 (some .boolean) :: ([.fieldLink RX3 42 "BendOrders$Shape" "flanges" "I", .fieldLink RX3 9 "BendOrders$Shape" "left" "[I", .fieldLink RX3 15 "BendOrders$Shape" "right" "[I", .fieldLink RX3 18 "BendOrders$Shape" "bottom" "[I", .fieldLink RX3 21 "BendOrders$Shape" "top" "[I", .methodLink RX3 77 yX3_flangesIn, .instanceMethod yX3_flangesIn, .selects RX3 yX3_flangesIn yX3_flangesIn, .initialized RX3, .code yX3_flangesIn cX3_flangesIn 10 (some .int)] ++ wsX30)
def wsX2_reason_r1 : List Cond := [Cond.fieldLink RX2 12 "BendOrders$Press" "shape" "LBendOrders$Shape;", Cond.methodLink RX2 18 yX4_isUp, Cond.instanceMethod yX4_isUp, Cond.selects RX4 yX4_isUp yX4_isUp, Cond.initialized RX4, Cond.code yX4_isUp cX4_isUp 2 (some .boolean), Cond.fieldLink RX4 15 "BendOrders$State" "ups" "I", Cond.methodLink RX2 24 yX4_clampedLength, Cond.instanceMethod yX4_clampedLength, Cond.selects RX4 yX4_clampedLength yX4_clampedLength, Cond.code yX4_clampedLength cX4_clampedLength 5 (some .int), Cond.fieldLink RX4 9 "BendOrders$State" "bends" "I", Cond.methodLink RX4 63 yX4_lengthAt, Cond.instanceMethod yX4_lengthAt, Cond.selects RX4 yX4_lengthAt yX4_lengthAt, Cond.code yX4_lengthAt cX4_lengthAt 2 (some .int), Cond.fieldLink RX4 28 "BendOrders$State" "lengths" "[I", Cond.methodLink RX2 28 yX4_settingAt, Cond.instanceMethod yX4_settingAt, Cond.selects RX4 yX4_settingAt yX4_settingAt, Cond.code yX4_settingAt cX4_settingAt 2 (some .int), Cond.fieldLink RX4 35 "BendOrders$State" "settings" "[I", Cond.methodLink RX2 32 yX3_layFlat, Cond.instanceMethod yX3_layFlat]
def wsX2_reason_r2 : List Cond := [Cond.selects RX3 yX3_layFlat yX3_layFlat, Cond.initialized RX3, Cond.code yX3_layFlat cX3_layFlat 7 none, Cond.fieldLink RX3 30 "BendOrders$State" "bends" "I", Cond.methodLink RX3 36 Lib.Math.min.name, Cond.static Lib.Math.min.name, Cond.initialized "java/lang/Math", Cond.code Lib.Math.min.name Lib.Math.min.code 2 (some .int), Cond.fieldLink RX3 42 "BendOrders$Shape" "flanges" "I", Cond.methodLink RX3 45 yX3_startAtTool, Cond.instanceMethod yX3_startAtTool, Cond.selects RX3 yX3_startAtTool yX3_startAtTool, Cond.code yX3_startAtTool cX3_startAtTool 2 none, Cond.fieldLink RX3 65 "BendOrders$Shape" "x" "I", Cond.fieldLink RX3 68 "BendOrders$Shape" "y" "I", Cond.fieldLink RX3 71 "BendOrders$Shape" "stepX" "I", Cond.fieldLink RX3 74 "BendOrders$Shape" "stepY" "I", Cond.methodLink RX3 49 yX4_isUp, Cond.methodLink RX3 53 yX3_turnAt, Cond.instanceMethod yX3_turnAt, Cond.selects RX3 yX3_turnAt yX3_turnAt, Cond.code yX3_turnAt cX3_turnAt 5 none, Cond.methodLink RX3 57 yX4_lengthAt, Cond.methodLink RX3 61 yX3_draw]
def wsX2_reason_r3 : List Cond := [Cond.instanceMethod yX3_draw, Cond.selects RX3 yX3_draw yX3_draw, Cond.code yX3_draw cX3_draw 5 none, Cond.fieldLink RX3 9 "BendOrders$Shape" "left" "[I", Cond.fieldLink RX3 15 "BendOrders$Shape" "right" "[I", Cond.fieldLink RX3 18 "BendOrders$Shape" "bottom" "[I", Cond.fieldLink RX3 21 "BendOrders$Shape" "top" "[I", Cond.fieldLink RX3 24 "BendOrders$Shape" "farX" "[I", Cond.fieldLink RX3 27 "BendOrders$Shape" "farY" "[I", Cond.methodLink RX2 36 yX2_inUpper, Cond.instanceMethod yX2_inUpper, Cond.selects RX2 yX2_inUpper yX2_inUpper, Cond.initialized RX2, Cond.code yX2_inUpper cX2_inUpper 6 (some .int), Cond.methodLink RX2 66 Lib.Math.min.name, Cond.methodLink RX2 71 yX3_flangesIn, Cond.instanceMethod yX3_flangesIn, Cond.selects RX3 yX3_flangesIn yX3_flangesIn, Cond.code yX3_flangesIn cX3_flangesIn 10 (some .int), Cond.methodLink RX2 40 yX2_inLower, Cond.instanceMethod yX2_inLower, Cond.selects RX2 yX2_inLower yX2_inLower, Cond.code yX2_inLower cX2_inLower 1 (some .int), Cond.methodLink RX2 44 yX3_swingUp]
def wsX2_reason_r4 : List Cond := [Cond.instanceMethod yX3_swingUp, Cond.selects RX3 yX3_swingUp yX3_swingUp, Cond.code yX3_swingUp cX3_swingUp 5 none, Cond.methodLink RX2 48 yX3_strikesItself, Cond.instanceMethod yX3_strikesItself, Cond.selects RX3 yX3_strikesItself yX3_strikesItself, Cond.code yX3_strikesItself cX3_strikesItself 3 (some .boolean), Cond.methodLink RX3 77 yX3_flangesIn]
def wsX2_reason : List Cond := .code yX2_reason cX2_reason 7 (some .int) :: ((wsX2_reason_r1 ++ (wsX2_reason_r2 ++ (wsX2_reason_r3 ++ wsX2_reason_r4))) ++ wsX20 ++ wsX40 ++ wsX30)
def wsX1_fillRow_r1 : List Cond := [Cond.fieldLink RX1 21 "BendOrders$Plan" "planned" "LBendOrders$State;", Cond.fieldLink RX1 62 "BendOrders$State" "bends" "I", Cond.fieldLink RX1 12 "BendOrders$Plan" "press" "LBendOrders$Press;", Cond.fieldLink RX1 29 "BendOrders$Plan" "ways" "[I", Cond.fieldLink RX1 33 "BendOrders$Plan" "steps" "[I", Cond.methodLink RX1 66 yX1_waysFrom, Cond.instanceMethod yX1_waysFrom, Cond.selects RX1 yX1_waysFrom yX1_waysFrom, Cond.initialized RX1, Cond.code yX1_waysFrom cX1_waysFrom 2 (some .int), Cond.methodLink RX1 70 yX4_isUp, Cond.instanceMethod yX4_isUp, Cond.selects RX4 yX4_isUp yX4_isUp, Cond.initialized RX4, Cond.code yX4_isUp cX4_isUp 2 (some .boolean), Cond.fieldLink RX4 15 "BendOrders$State" "ups" "I", Cond.methodLink RX1 74 yX2_reason, Cond.instanceMethod yX2_reason, Cond.selects RX2 yX2_reason yX2_reason, Cond.initialized RX2, Cond.code yX2_reason cX2_reason 7 (some .int), Cond.fieldLink RX2 12 "BendOrders$Press" "shape" "LBendOrders$Shape;", Cond.methodLink RX2 18 yX4_isUp, Cond.methodLink RX2 24 yX4_clampedLength]
def wsX1_fillRow_r2 : List Cond := [Cond.instanceMethod yX4_clampedLength, Cond.selects RX4 yX4_clampedLength yX4_clampedLength, Cond.code yX4_clampedLength cX4_clampedLength 5 (some .int), Cond.fieldLink RX4 9 "BendOrders$State" "bends" "I", Cond.methodLink RX4 63 yX4_lengthAt, Cond.instanceMethod yX4_lengthAt, Cond.selects RX4 yX4_lengthAt yX4_lengthAt, Cond.code yX4_lengthAt cX4_lengthAt 2 (some .int), Cond.fieldLink RX4 28 "BendOrders$State" "lengths" "[I", Cond.methodLink RX2 28 yX4_settingAt, Cond.instanceMethod yX4_settingAt, Cond.selects RX4 yX4_settingAt yX4_settingAt, Cond.code yX4_settingAt cX4_settingAt 2 (some .int), Cond.fieldLink RX4 35 "BendOrders$State" "settings" "[I", Cond.methodLink RX2 32 yX3_layFlat, Cond.instanceMethod yX3_layFlat, Cond.selects RX3 yX3_layFlat yX3_layFlat, Cond.initialized RX3, Cond.code yX3_layFlat cX3_layFlat 7 none, Cond.fieldLink RX3 30 "BendOrders$State" "bends" "I", Cond.methodLink RX3 36 Lib.Math.min.name, Cond.static Lib.Math.min.name, Cond.initialized "java/lang/Math", Cond.code Lib.Math.min.name Lib.Math.min.code 2 (some .int)]
def wsX1_fillRow_r3 : List Cond := [Cond.fieldLink RX3 42 "BendOrders$Shape" "flanges" "I", Cond.methodLink RX3 45 yX3_startAtTool, Cond.instanceMethod yX3_startAtTool, Cond.selects RX3 yX3_startAtTool yX3_startAtTool, Cond.code yX3_startAtTool cX3_startAtTool 2 none, Cond.fieldLink RX3 65 "BendOrders$Shape" "x" "I", Cond.fieldLink RX3 68 "BendOrders$Shape" "y" "I", Cond.fieldLink RX3 71 "BendOrders$Shape" "stepX" "I", Cond.fieldLink RX3 74 "BendOrders$Shape" "stepY" "I", Cond.methodLink RX3 49 yX4_isUp, Cond.methodLink RX3 53 yX3_turnAt, Cond.instanceMethod yX3_turnAt, Cond.selects RX3 yX3_turnAt yX3_turnAt, Cond.code yX3_turnAt cX3_turnAt 5 none, Cond.methodLink RX3 57 yX4_lengthAt, Cond.methodLink RX3 61 yX3_draw, Cond.instanceMethod yX3_draw, Cond.selects RX3 yX3_draw yX3_draw, Cond.code yX3_draw cX3_draw 5 none, Cond.fieldLink RX3 9 "BendOrders$Shape" "left" "[I", Cond.fieldLink RX3 15 "BendOrders$Shape" "right" "[I", Cond.fieldLink RX3 18 "BendOrders$Shape" "bottom" "[I", Cond.fieldLink RX3 21 "BendOrders$Shape" "top" "[I", Cond.fieldLink RX3 24 "BendOrders$Shape" "farX" "[I"]
def wsX1_fillRow_r4 : List Cond := [Cond.fieldLink RX3 27 "BendOrders$Shape" "farY" "[I", Cond.methodLink RX2 36 yX2_inUpper, Cond.instanceMethod yX2_inUpper, Cond.selects RX2 yX2_inUpper yX2_inUpper, Cond.code yX2_inUpper cX2_inUpper 6 (some .int), Cond.methodLink RX2 66 Lib.Math.min.name, Cond.methodLink RX2 71 yX3_flangesIn, Cond.instanceMethod yX3_flangesIn, Cond.selects RX3 yX3_flangesIn yX3_flangesIn, Cond.code yX3_flangesIn cX3_flangesIn 10 (some .int), Cond.methodLink RX2 40 yX2_inLower, Cond.instanceMethod yX2_inLower, Cond.selects RX2 yX2_inLower yX2_inLower, Cond.code yX2_inLower cX2_inLower 1 (some .int), Cond.methodLink RX2 44 yX3_swingUp, Cond.instanceMethod yX3_swingUp, Cond.selects RX3 yX3_swingUp yX3_swingUp, Cond.code yX3_swingUp cX3_swingUp 5 none, Cond.methodLink RX2 48 yX3_strikesItself, Cond.instanceMethod yX3_strikesItself, Cond.selects RX3 yX3_strikesItself yX3_strikesItself, Cond.code yX3_strikesItself cX3_strikesItself 3 (some .boolean), Cond.methodLink RX3 77 yX3_flangesIn]
def wsX1_fillRow : List Cond := .code yX1_fillRow cX1_fillRow 8 none :: ((wsX1_fillRow_r1 ++ (wsX1_fillRow_r2 ++ (wsX1_fillRow_r3 ++ wsX1_fillRow_r4))) ++ wsX10 ++ wsX40 ++ wsX20 ++ wsX30)
def wsX1_prepare_r1 : List Cond := [Cond.fieldLink RX1 25 "BendOrders$Plan" "made" "Z", Cond.fieldLink RX1 21 "BendOrders$Plan" "planned" "LBendOrders$State;", Cond.fieldLink RX1 29 "BendOrders$Plan" "ways" "[I", Cond.methodLink RX1 52 Lib.Math.min.name, Cond.static Lib.Math.min.name, Cond.initialized "java/lang/Math", Cond.code Lib.Math.min.name Lib.Math.min.code 2 (some .int), Cond.methodLink RX1 40 yX4_bendsLike, Cond.instanceMethod yX4_bendsLike, Cond.selects RX4 yX4_bendsLike yX4_bendsLike, Cond.initialized RX4, Cond.code yX4_bendsLike cX4_bendsLike 3 (some .boolean), Cond.fieldLink RX4 9 "BendOrders$State" "bends" "I", Cond.fieldLink RX4 15 "BendOrders$State" "ups" "I", Cond.methodLink RX4 63 yX4_lengthAt, Cond.instanceMethod yX4_lengthAt, Cond.selects RX4 yX4_lengthAt yX4_lengthAt, Cond.code yX4_lengthAt cX4_lengthAt 2 (some .int), Cond.fieldLink RX4 28 "BendOrders$State" "lengths" "[I", Cond.methodLink RX4 66 yX4_settingAt, Cond.instanceMethod yX4_settingAt, Cond.selects RX4 yX4_settingAt yX4_settingAt, Cond.code yX4_settingAt cX4_settingAt 2 (some .int), Cond.fieldLink RX4 35 "BendOrders$State" "settings" "[I"]
def wsX1_prepare_r2 : List Cond := [Cond.methodLink RX1 44 yX4_copyFrom, Cond.instanceMethod yX4_copyFrom, Cond.selects RX4 yX4_copyFrom yX4_copyFrom, Cond.code yX4_copyFrom cX4_copyFrom 2 none, Cond.fieldLink RX4 18 "BendOrders$State" "done" "I", Cond.fieldLink RX4 21 "BendOrders$State" "over" "Z", Cond.fieldLink RX4 25 "BendOrders$State" "bendings" "I", Cond.methodLink RX4 38 arraycopyName, Cond.native arraycopyName, Cond.static arraycopyName, Cond.initialized "java/lang/System", Cond.methodLink RX1 48 yX4_allBends, Cond.instanceMethod yX4_allBends, Cond.selects RX4 yX4_allBends yX4_allBends, Cond.code yX4_allBends cX4_allBends 1 (some .int), Cond.methodLink RX1 58 yX1_fillRow, Cond.instanceMethod yX1_fillRow, Cond.selects RX1 yX1_fillRow yX1_fillRow, Cond.initialized RX1, Cond.code yX1_fillRow cX1_fillRow 8 none, Cond.fieldLink RX1 62 "BendOrders$State" "bends" "I", Cond.fieldLink RX1 12 "BendOrders$Plan" "press" "LBendOrders$Press;", Cond.fieldLink RX1 33 "BendOrders$Plan" "steps" "[I", Cond.methodLink RX1 66 yX1_waysFrom]
def wsX1_prepare_r3 : List Cond := [Cond.instanceMethod yX1_waysFrom, Cond.selects RX1 yX1_waysFrom yX1_waysFrom, Cond.code yX1_waysFrom cX1_waysFrom 2 (some .int), Cond.methodLink RX1 70 yX4_isUp, Cond.instanceMethod yX4_isUp, Cond.selects RX4 yX4_isUp yX4_isUp, Cond.code yX4_isUp cX4_isUp 2 (some .boolean), Cond.methodLink RX1 74 yX2_reason, Cond.instanceMethod yX2_reason, Cond.selects RX2 yX2_reason yX2_reason, Cond.initialized RX2, Cond.code yX2_reason cX2_reason 7 (some .int), Cond.fieldLink RX2 12 "BendOrders$Press" "shape" "LBendOrders$Shape;", Cond.methodLink RX2 18 yX4_isUp, Cond.methodLink RX2 24 yX4_clampedLength, Cond.instanceMethod yX4_clampedLength, Cond.selects RX4 yX4_clampedLength yX4_clampedLength, Cond.code yX4_clampedLength cX4_clampedLength 5 (some .int), Cond.methodLink RX2 28 yX4_settingAt, Cond.methodLink RX2 32 yX3_layFlat, Cond.instanceMethod yX3_layFlat, Cond.selects RX3 yX3_layFlat yX3_layFlat, Cond.initialized RX3, Cond.code yX3_layFlat cX3_layFlat 7 none]
def wsX1_prepare_r4 : List Cond := [Cond.fieldLink RX3 30 "BendOrders$State" "bends" "I", Cond.methodLink RX3 36 Lib.Math.min.name, Cond.fieldLink RX3 42 "BendOrders$Shape" "flanges" "I", Cond.methodLink RX3 45 yX3_startAtTool, Cond.instanceMethod yX3_startAtTool, Cond.selects RX3 yX3_startAtTool yX3_startAtTool, Cond.code yX3_startAtTool cX3_startAtTool 2 none, Cond.fieldLink RX3 65 "BendOrders$Shape" "x" "I", Cond.fieldLink RX3 68 "BendOrders$Shape" "y" "I", Cond.fieldLink RX3 71 "BendOrders$Shape" "stepX" "I", Cond.fieldLink RX3 74 "BendOrders$Shape" "stepY" "I", Cond.methodLink RX3 49 yX4_isUp, Cond.methodLink RX3 53 yX3_turnAt, Cond.instanceMethod yX3_turnAt, Cond.selects RX3 yX3_turnAt yX3_turnAt, Cond.code yX3_turnAt cX3_turnAt 5 none, Cond.methodLink RX3 57 yX4_lengthAt, Cond.methodLink RX3 61 yX3_draw, Cond.instanceMethod yX3_draw, Cond.selects RX3 yX3_draw yX3_draw, Cond.code yX3_draw cX3_draw 5 none, Cond.fieldLink RX3 9 "BendOrders$Shape" "left" "[I", Cond.fieldLink RX3 15 "BendOrders$Shape" "right" "[I", Cond.fieldLink RX3 18 "BendOrders$Shape" "bottom" "[I"]
def wsX1_prepare_r5 : List Cond := [Cond.fieldLink RX3 21 "BendOrders$Shape" "top" "[I", Cond.fieldLink RX3 24 "BendOrders$Shape" "farX" "[I", Cond.fieldLink RX3 27 "BendOrders$Shape" "farY" "[I", Cond.methodLink RX2 36 yX2_inUpper, Cond.instanceMethod yX2_inUpper, Cond.selects RX2 yX2_inUpper yX2_inUpper, Cond.code yX2_inUpper cX2_inUpper 6 (some .int), Cond.methodLink RX2 66 Lib.Math.min.name, Cond.methodLink RX2 71 yX3_flangesIn, Cond.instanceMethod yX3_flangesIn, Cond.selects RX3 yX3_flangesIn yX3_flangesIn, Cond.code yX3_flangesIn cX3_flangesIn 10 (some .int), Cond.methodLink RX2 40 yX2_inLower, Cond.instanceMethod yX2_inLower, Cond.selects RX2 yX2_inLower yX2_inLower, Cond.code yX2_inLower cX2_inLower 1 (some .int), Cond.methodLink RX2 44 yX3_swingUp, Cond.instanceMethod yX3_swingUp, Cond.selects RX3 yX3_swingUp yX3_swingUp, Cond.code yX3_swingUp cX3_swingUp 5 none, Cond.methodLink RX2 48 yX3_strikesItself, Cond.instanceMethod yX3_strikesItself, Cond.selects RX3 yX3_strikesItself yX3_strikesItself, Cond.code yX3_strikesItself cX3_strikesItself 3 (some .boolean)]
def wsX1_prepare_r6 : List Cond := [Cond.methodLink RX3 77 yX3_flangesIn]
def wsX1_prepare : List Cond := .code yX1_prepare cX1_prepare 4 none :: ((wsX1_prepare_r1 ++ (wsX1_prepare_r2 ++ (wsX1_prepare_r3 ++ (wsX1_prepare_r4 ++ (wsX1_prepare_r5 ++ wsX1_prepare_r6))))) ++ wsX10 ++ wsX40 ++ wsX20 ++ wsX30)
def wsX1_stepsFrom : List Cond := .code yX1_stepsFrom cX1_stepsFrom 2 (some .int) :: ([.fieldLink RX1 33 "BendOrders$Plan" "steps" "[I"] ++ wsX10)
def wsX1_firstStep : List Cond := .code yX1_firstStep cX1_firstStep 4 (some .int) :: ([.fieldLink RX1 21 "BendOrders$Plan" "planned" "LBendOrders$State;", .fieldLink RX1 62 "BendOrders$State" "bends" "I", .methodLink RX1 78 yX1_stepsFrom, .instanceMethod yX1_stepsFrom, .selects RX1 yX1_stepsFrom yX1_stepsFrom, .initialized RX1, .code yX1_stepsFrom cX1_stepsFrom 2 (some .int), .fieldLink RX1 33 "BendOrders$Plan" "steps" "[I"] ++ wsX10 ++ wsX40)
def wsX1_turnings : List Cond := .code yX1_turnings cX1_turnings 8 (some .int) :: ([.fieldLink RX1 21 "BendOrders$Plan" "planned" "LBendOrders$State;", .fieldLink RX1 62 "BendOrders$State" "bends" "I", .methodLink RX1 48 yX4_allBends, .instanceMethod yX4_allBends, .selects RX4 yX4_allBends yX4_allBends, .initialized RX4, .code yX4_allBends cX4_allBends 1 (some .int), .fieldLink RX4 9 "BendOrders$State" "bends" "I", .methodLink RX1 81 yX1_firstStep, .instanceMethod yX1_firstStep, .selects RX1 yX1_firstStep yX1_firstStep, .initialized RX1, .code yX1_firstStep cX1_firstStep 4 (some .int), .methodLink RX1 78 yX1_stepsFrom, .instanceMethod yX1_stepsFrom, .selects RX1 yX1_stepsFrom yX1_stepsFrom, .code yX1_stepsFrom cX1_stepsFrom 2 (some .int), .fieldLink RX1 33 "BendOrders$Plan" "steps" "[I", .methodLink RX1 70 yX4_isUp, .instanceMethod yX4_isUp, .selects RX4 yX4_isUp yX4_isUp, .code yX4_isUp cX4_isUp 2 (some .boolean), .fieldLink RX4 15 "BendOrders$State" "ups" "I"] ++ wsX10 ++ wsX40)
def wsX1_reachFrom : List Cond := .code yX1_reachFrom cX1_reachFrom 5 none :: ([.fieldLink RX1 21 "BendOrders$Plan" "planned" "LBendOrders$State;", .fieldLink RX1 62 "BendOrders$State" "bends" "I", .fieldLink RX1 36 "BendOrders$Plan" "reached" "[Z"] ++ wsX10 ++ wsX40)
def wsX1_canPrecede : List Cond := .code yX1_canPrecede cX1_canPrecede 6 (some .boolean) :: ([.fieldLink RX1 36 "BendOrders$Plan" "reached" "[Z", .methodLink RX1 84 Lib.Math.max.name, .static Lib.Math.max.name, .initialized "java/lang/Math", .code Lib.Math.max.name Lib.Math.max.code 2 (some .int), .methodLink RX1 78 yX1_stepsFrom, .instanceMethod yX1_stepsFrom, .selects RX1 yX1_stepsFrom yX1_stepsFrom, .initialized RX1, .code yX1_stepsFrom cX1_stepsFrom 2 (some .int), .fieldLink RX1 33 "BendOrders$Plan" "steps" "[I", .methodLink RX1 87 yX1_reachFrom, .instanceMethod yX1_reachFrom, .selects RX1 yX1_reachFrom yX1_reachFrom, .code yX1_reachFrom cX1_reachFrom 5 none, .fieldLink RX1 21 "BendOrders$Plan" "planned" "LBendOrders$State;", .fieldLink RX1 62 "BendOrders$State" "bends" "I"] ++ wsX10 ++ wsX40)
def wsX2_upperStrikers_r1 : List Cond := [Cond.fieldLink RX2 12 "BendOrders$Press" "shape" "LBendOrders$Shape;", Cond.methodLink RX2 32 yX3_layFlat, Cond.instanceMethod yX3_layFlat, Cond.selects RX3 yX3_layFlat yX3_layFlat, Cond.initialized RX3, Cond.code yX3_layFlat cX3_layFlat 7 none, Cond.fieldLink RX3 30 "BendOrders$State" "bends" "I", Cond.methodLink RX3 36 Lib.Math.min.name, Cond.static Lib.Math.min.name, Cond.initialized "java/lang/Math", Cond.code Lib.Math.min.name Lib.Math.min.code 2 (some .int), Cond.fieldLink RX3 42 "BendOrders$Shape" "flanges" "I", Cond.methodLink RX3 45 yX3_startAtTool, Cond.instanceMethod yX3_startAtTool, Cond.selects RX3 yX3_startAtTool yX3_startAtTool, Cond.code yX3_startAtTool cX3_startAtTool 2 none, Cond.fieldLink RX3 65 "BendOrders$Shape" "x" "I", Cond.fieldLink RX3 68 "BendOrders$Shape" "y" "I", Cond.fieldLink RX3 71 "BendOrders$Shape" "stepX" "I", Cond.fieldLink RX3 74 "BendOrders$Shape" "stepY" "I", Cond.methodLink RX3 49 yX4_isUp, Cond.instanceMethod yX4_isUp, Cond.selects RX4 yX4_isUp yX4_isUp, Cond.initialized RX4]
def wsX2_upperStrikers_r2 : List Cond := [Cond.code yX4_isUp cX4_isUp 2 (some .boolean), Cond.fieldLink RX4 15 "BendOrders$State" "ups" "I", Cond.methodLink RX3 53 yX3_turnAt, Cond.instanceMethod yX3_turnAt, Cond.selects RX3 yX3_turnAt yX3_turnAt, Cond.code yX3_turnAt cX3_turnAt 5 none, Cond.methodLink RX3 57 yX4_lengthAt, Cond.instanceMethod yX4_lengthAt, Cond.selects RX4 yX4_lengthAt yX4_lengthAt, Cond.code yX4_lengthAt cX4_lengthAt 2 (some .int), Cond.fieldLink RX4 28 "BendOrders$State" "lengths" "[I", Cond.methodLink RX3 61 yX3_draw, Cond.instanceMethod yX3_draw, Cond.selects RX3 yX3_draw yX3_draw, Cond.code yX3_draw cX3_draw 5 none, Cond.fieldLink RX3 9 "BendOrders$Shape" "left" "[I", Cond.fieldLink RX3 15 "BendOrders$Shape" "right" "[I", Cond.fieldLink RX3 18 "BendOrders$Shape" "bottom" "[I", Cond.fieldLink RX3 21 "BendOrders$Shape" "top" "[I", Cond.fieldLink RX3 24 "BendOrders$Shape" "farX" "[I", Cond.fieldLink RX3 27 "BendOrders$Shape" "farY" "[I", Cond.methodLink RX2 36 yX2_inUpper, Cond.instanceMethod yX2_inUpper, Cond.selects RX2 yX2_inUpper yX2_inUpper]
def wsX2_upperStrikers_r3 : List Cond := [Cond.initialized RX2, Cond.code yX2_inUpper cX2_inUpper 6 (some .int), Cond.methodLink RX2 66 Lib.Math.min.name, Cond.methodLink RX2 28 yX4_settingAt, Cond.instanceMethod yX4_settingAt, Cond.selects RX4 yX4_settingAt yX4_settingAt, Cond.code yX4_settingAt cX4_settingAt 2 (some .int), Cond.fieldLink RX4 35 "BendOrders$State" "settings" "[I", Cond.methodLink RX2 71 yX3_flangesIn, Cond.instanceMethod yX3_flangesIn, Cond.selects RX3 yX3_flangesIn yX3_flangesIn, Cond.code yX3_flangesIn cX3_flangesIn 10 (some .int), Cond.methodLink RX2 44 yX3_swingUp, Cond.instanceMethod yX3_swingUp, Cond.selects RX3 yX3_swingUp yX3_swingUp, Cond.code yX3_swingUp cX3_swingUp 5 none]
def wsX2_upperStrikers : List Cond := .code yX2_upperStrikers cX2_upperStrikers 6 (some .int) :: ((wsX2_upperStrikers_r1 ++ (wsX2_upperStrikers_r2 ++ wsX2_upperStrikers_r3)) ++ wsX20 ++ wsX40 ++ wsX30)
def wsX3_farEndY : List Cond := .code yX3_farEndY cX3_farEndY 2 (some .int) :: ([.fieldLink RX3 27 "BendOrders$Shape" "farY" "[I"] ++ wsX30)
def wsX3_farEndX : List Cond := .code yX3_farEndX cX3_farEndX 2 (some .int) :: ([.fieldLink RX3 24 "BendOrders$Shape" "farX" "[I"] ++ wsX30)
def wsX2_farEnd_r1 : List Cond := [Cond.fieldLink RX2 12 "BendOrders$Press" "shape" "LBendOrders$Shape;", Cond.fieldLink RX2 52 "BendOrders$State" "done" "I", Cond.fieldLink RX2 56 "BendOrders$State" "over" "Z", Cond.methodLink RX2 32 yX3_layFlat, Cond.instanceMethod yX3_layFlat, Cond.selects RX3 yX3_layFlat yX3_layFlat, Cond.initialized RX3, Cond.code yX3_layFlat cX3_layFlat 7 none, Cond.fieldLink RX3 30 "BendOrders$State" "bends" "I", Cond.methodLink RX3 36 Lib.Math.min.name, Cond.static Lib.Math.min.name, Cond.initialized "java/lang/Math", Cond.code Lib.Math.min.name Lib.Math.min.code 2 (some .int), Cond.fieldLink RX3 42 "BendOrders$Shape" "flanges" "I", Cond.methodLink RX3 45 yX3_startAtTool, Cond.instanceMethod yX3_startAtTool, Cond.selects RX3 yX3_startAtTool yX3_startAtTool, Cond.code yX3_startAtTool cX3_startAtTool 2 none, Cond.fieldLink RX3 65 "BendOrders$Shape" "x" "I", Cond.fieldLink RX3 68 "BendOrders$Shape" "y" "I", Cond.fieldLink RX3 71 "BendOrders$Shape" "stepX" "I", Cond.fieldLink RX3 74 "BendOrders$Shape" "stepY" "I", Cond.methodLink RX3 49 yX4_isUp, Cond.instanceMethod yX4_isUp]
def wsX2_farEnd_r2 : List Cond := [Cond.selects RX4 yX4_isUp yX4_isUp, Cond.initialized RX4, Cond.code yX4_isUp cX4_isUp 2 (some .boolean), Cond.fieldLink RX4 15 "BendOrders$State" "ups" "I", Cond.methodLink RX3 53 yX3_turnAt, Cond.instanceMethod yX3_turnAt, Cond.selects RX3 yX3_turnAt yX3_turnAt, Cond.code yX3_turnAt cX3_turnAt 5 none, Cond.methodLink RX3 57 yX4_lengthAt, Cond.instanceMethod yX4_lengthAt, Cond.selects RX4 yX4_lengthAt yX4_lengthAt, Cond.code yX4_lengthAt cX4_lengthAt 2 (some .int), Cond.fieldLink RX4 28 "BendOrders$State" "lengths" "[I", Cond.methodLink RX3 61 yX3_draw, Cond.instanceMethod yX3_draw, Cond.selects RX3 yX3_draw yX3_draw, Cond.code yX3_draw cX3_draw 5 none, Cond.fieldLink RX3 9 "BendOrders$Shape" "left" "[I", Cond.fieldLink RX3 15 "BendOrders$Shape" "right" "[I", Cond.fieldLink RX3 18 "BendOrders$Shape" "bottom" "[I", Cond.fieldLink RX3 21 "BendOrders$Shape" "top" "[I", Cond.fieldLink RX3 24 "BendOrders$Shape" "farX" "[I", Cond.fieldLink RX3 27 "BendOrders$Shape" "farY" "[I", Cond.methodLink RX2 60 yX3_farEndY]
def wsX2_farEnd_r3 : List Cond := [Cond.instanceMethod yX3_farEndY, Cond.selects RX3 yX3_farEndY yX3_farEndY, Cond.code yX3_farEndY cX3_farEndY 2 (some .int), Cond.methodLink RX2 63 yX3_farEndX, Cond.instanceMethod yX3_farEndX, Cond.selects RX3 yX3_farEndX yX3_farEndX, Cond.code yX3_farEndX cX3_farEndX 2 (some .int)]
def wsX2_farEnd : List Cond := .code yX2_farEnd cX2_farEnd 5 (some .int) :: ((wsX2_farEnd_r1 ++ (wsX2_farEnd_r2 ++ wsX2_farEnd_r3)) ++ wsX20 ++ wsX40 ++ wsX30)
def wsX4_beginStrip : List Cond := .code yX4_beginStrip cX4_beginStrip 2 none :: ([.methodLink RX4 44 Lib.Math.min.name, .static Lib.Math.min.name, .initialized "java/lang/Math", .code Lib.Math.min.name Lib.Math.min.code 2 (some .int), .methodLink RX4 50 Lib.Math.max.name, .static Lib.Math.max.name, .code Lib.Math.max.name Lib.Math.max.code 2 (some .int), .fieldLink RX4 9 "BendOrders$State" "bends" "I", .fieldLink RX4 15 "BendOrders$State" "ups" "I", .fieldLink RX4 18 "BendOrders$State" "done" "I", .fieldLink RX4 21 "BendOrders$State" "over" "Z"] ++ wsX40)
def wsX4_hasBend : List Cond := .code yX4_hasBend cX4_hasBend 2 (some .boolean) :: ([.fieldLink RX4 9 "BendOrders$State" "bends" "I"] ++ wsX40)
def wsX4_hasFlange : List Cond := .code yX4_hasFlange cX4_hasFlange 2 (some .boolean) :: ([.fieldLink RX4 9 "BendOrders$State" "bends" "I"] ++ wsX40)
def wsX4_isDone : List Cond := .code yX4_isDone cX4_isDone 2 (some .boolean) :: ([.fieldLink RX4 18 "BendOrders$State" "done" "I"] ++ wsX40)
def wsX4_putUp : List Cond := .code yX4_putUp cX4_putUp 3 none :: ([.fieldLink RX4 15 "BendOrders$State" "ups" "I"] ++ wsX40)
def wsX4_doBend : List Cond := .code yX4_doBend cX4_doBend 2 none :: ([.fieldLink RX4 18 "BendOrders$State" "done" "I", .fieldLink RX4 25 "BendOrders$State" "bendings" "I"] ++ wsX40)
def wsJ6_bitCount_0f7a4 : List Cond := .code yJ6_bitCount_0f7a4 cJ6_bitCount_0f7a4 1 (some .int) :: ([.constant RJ6 265 (1431655765), .constant RJ6 266 (858993459), .constant RJ6 267 (252645135)])
def wsX4_doneBends : List Cond := .code yX4_doneBends cX4_doneBends 1 (some .int) :: ([.fieldLink RX4 18 "BendOrders$State" "done" "I", .methodLink RX4 53 yJ6_bitCount_0f7a4, .static yJ6_bitCount_0f7a4, .initialized RJ6, .code yJ6_bitCount_0f7a4 cJ6_bitCount_0f7a4 1 (some .int), .constant RJ6 265 (1431655765), .constant RJ6 266 (858993459), .constant RJ6 267 (252645135)] ++ wsX40)
def wsX4_openBends : List Cond := .code yX4_openBends cX4_openBends 1 (some .int) :: ([.fieldLink RX4 9 "BendOrders$State" "bends" "I", .methodLink RX4 59 yX4_doneBends, .instanceMethod yX4_doneBends, .selects RX4 yX4_doneBends yX4_doneBends, .initialized RX4, .code yX4_doneBends cX4_doneBends 1 (some .int), .fieldLink RX4 18 "BendOrders$State" "done" "I", .methodLink RX4 53 yJ6_bitCount_0f7a4, .static yJ6_bitCount_0f7a4, .initialized RJ6, .code yJ6_bitCount_0f7a4 cJ6_bitCount_0f7a4 1 (some .int), .constant RJ6 265 (1431655765), .constant RJ6 266 (858993459), .constant RJ6 267 (252645135)] ++ wsX40)
def wsX4_putLength : List Cond := .code yX4_putLength cX4_putLength 3 none :: ([.fieldLink RX4 28 "BendOrders$State" "lengths" "[I"] ++ wsX40)
def wsX4_putSetting : List Cond := .code yX4_putSetting cX4_putSetting 3 none :: ([.fieldLink RX4 35 "BendOrders$State" "settings" "[I"] ++ wsX40)
def wsX4_wholeLength : List Cond := .code yX4_wholeLength cX4_wholeLength 3 (some .int) :: ([.fieldLink RX4 9 "BendOrders$State" "bends" "I", .methodLink RX4 63 yX4_lengthAt, .instanceMethod yX4_lengthAt, .selects RX4 yX4_lengthAt yX4_lengthAt, .initialized RX4, .code yX4_lengthAt cX4_lengthAt 2 (some .int), .fieldLink RX4 28 "BendOrders$State" "lengths" "[I"] ++ wsX40)
def wsX4_degrees : List Cond := .code yX4_degrees cX4_degrees 3 (some .int) :: ([.methodLink RX4 50 Lib.Math.max.name, .static Lib.Math.max.name, .initialized "java/lang/Math", .code Lib.Math.max.name Lib.Math.max.code 2 (some .int), .methodLink RX4 66 yX4_settingAt, .instanceMethod yX4_settingAt, .selects RX4 yX4_settingAt yX4_settingAt, .initialized RX4, .code yX4_settingAt cX4_settingAt 2 (some .int), .fieldLink RX4 35 "BendOrders$State" "settings" "[I", .methodLink RX4 63 yX4_lengthAt, .instanceMethod yX4_lengthAt, .selects RX4 yX4_lengthAt yX4_lengthAt, .code yX4_lengthAt cX4_lengthAt 2 (some .int), .fieldLink RX4 28 "BendOrders$State" "lengths" "[I"] ++ wsX40)
def wsX5_init : List Cond := .code yX5_init cX5_init 1 none :: ([.methodLink RX5 3 objectInit, .instanceMethod objectInit, .code objectInit ⟨#[0xb1]⟩ 1 none, .fieldLink RX5 9 "BendOrders$Text" "size" "I", .arrayClass .char, .fieldLink RX5 15 "BendOrders$Text" "signs" "[C"] ++ wsX50)
def wsX5_append : List Cond := .code yX5_append cX5_append 2 none :: ([.fieldLink RX5 9 "BendOrders$Text" "size" "I", .fieldLink RX5 15 "BendOrders$Text" "signs" "[C"] ++ wsX50)
def wsX5_signAt : List Cond := .code yX5_signAt cX5_signAt 2 (some .char) :: ([.fieldLink RX5 9 "BendOrders$Text" "size" "I", .fieldLink RX5 15 "BendOrders$Text" "signs" "[C"] ++ wsX50)
def wsX5_pairs : List Cond := .code yX5_pairs cX5_pairs 1 (some .int) :: ([.fieldLink RX5 9 "BendOrders$Text" "size" "I"] ++ wsX50)
def wsX5_isAllowed : List Cond := .code yX5_isAllowed cX5_isAllowed 3 (some .boolean) :: ([.methodLink RX5 23 yX5_signAt, .instanceMethod yX5_signAt, .selects RX5 yX5_signAt yX5_signAt, .initialized RX5, .code yX5_signAt cX5_signAt 2 (some .char), .fieldLink RX5 9 "BendOrders$Text" "size" "I", .fieldLink RX5 15 "BendOrders$Text" "signs" "[C"] ++ wsX50)
def wsX5_fault : List Cond := .code yX5_fault cX5_fault 2 (some .int) :: ([.fieldLink RX5 9 "BendOrders$Text" "size" "I", .methodLink RX5 19 yX5_isAllowed, .instanceMethod yX5_isAllowed, .selects RX5 yX5_isAllowed yX5_isAllowed, .initialized RX5, .code yX5_isAllowed cX5_isAllowed 3 (some .boolean), .methodLink RX5 23 yX5_signAt, .instanceMethod yX5_signAt, .selects RX5 yX5_signAt yX5_signAt, .code yX5_signAt cX5_signAt 2 (some .char), .fieldLink RX5 15 "BendOrders$Text" "signs" "[C"] ++ wsX50)
def wsX6_init_r1 : List Cond := [Cond.methodLink RX6 1 objectInit, Cond.instanceMethod objectInit, Cond.code objectInit ⟨#[0xb1]⟩ 1 none, Cond.classLink RX6 7 RX4, Cond.instantiable RX4 7, Cond.initialized RX4, Cond.fieldLink RX6 10 "BendOrders" "now" "LBendOrders$State;", Cond.fieldLink RX6 16 "BendOrders" "snapshot" "LBendOrders$State;", Cond.fieldLink RX6 19 "BendOrders" "kept" "Z", Cond.classLink RX6 23 RX0, Cond.instantiable RX0 2, Cond.initialized RX0, Cond.fieldLink RX6 26 "BendOrders" "history" "LBendOrders$History;", Cond.classLink RX6 30 RX5, Cond.instantiable RX5 2, Cond.initialized RX5, Cond.fieldLink RX6 33 "BendOrders" "text" "LBendOrders$Text;", Cond.classLink RX6 37 RX2, Cond.instantiable RX2 1, Cond.initialized RX2, Cond.fieldLink RX6 40 "BendOrders" "press" "LBendOrders$Press;", Cond.classLink RX6 44 RX1, Cond.instantiable RX1 6, Cond.initialized RX1]
def wsX6_init_r2 : List Cond := [Cond.fieldLink RX6 47 "BendOrders" "plan" "LBendOrders$Plan;", Cond.methodLink RX6 9 yX4_init, Cond.instanceMethod yX4_init, Cond.code yX4_init cX4_init 1 none, Cond.methodLink RX4 3 objectInit, Cond.fieldLink RX4 9 "BendOrders$State" "bends" "I", Cond.fieldLink RX4 15 "BendOrders$State" "ups" "I", Cond.fieldLink RX4 18 "BendOrders$State" "done" "I", Cond.fieldLink RX4 21 "BendOrders$State" "over" "Z", Cond.fieldLink RX4 25 "BendOrders$State" "bendings" "I", Cond.arrayClass .int, Cond.fieldLink RX4 28 "BendOrders$State" "lengths" "[I", Cond.fieldLink RX4 35 "BendOrders$State" "settings" "[I", Cond.methodLink RX4 38 arraycopyName, Cond.native arraycopyName, Cond.static arraycopyName, Cond.initialized "java/lang/System", Cond.methodLink RX6 25 yX0_init, Cond.instanceMethod yX0_init, Cond.code yX0_init cX0_init 2 none, Cond.methodLink RX0 3 objectInit, Cond.fieldLink RX0 9 "BendOrders$History" "size" "I", Cond.classLink RX0 15 RX4, Cond.fieldLink RX0 17 "BendOrders$History" "states" "[LBendOrders$State;"]
def wsX6_init_r3 : List Cond := [Cond.methodLink RX0 21 yX4_init, Cond.methodLink RX6 32 yX5_init, Cond.instanceMethod yX5_init, Cond.code yX5_init cX5_init 1 none, Cond.methodLink RX5 3 objectInit, Cond.fieldLink RX5 9 "BendOrders$Text" "size" "I", Cond.arrayClass .char, Cond.fieldLink RX5 15 "BendOrders$Text" "signs" "[C", Cond.methodLink RX6 39 yX2_init, Cond.instanceMethod yX2_init, Cond.code yX2_init cX2_init 1 none, Cond.methodLink RX2 3 objectInit, Cond.classLink RX2 9 RX3, Cond.instantiable RX3 11, Cond.initialized RX3, Cond.fieldLink RX2 12 "BendOrders$Press" "shape" "LBendOrders$Shape;", Cond.methodLink RX2 11 yX3_init, Cond.instanceMethod yX3_init, Cond.code yX3_init cX3_init 1 none, Cond.methodLink RX3 3 objectInit, Cond.fieldLink RX3 9 "BendOrders$Shape" "left" "[I", Cond.fieldLink RX3 15 "BendOrders$Shape" "right" "[I", Cond.fieldLink RX3 18 "BendOrders$Shape" "bottom" "[I", Cond.fieldLink RX3 21 "BendOrders$Shape" "top" "[I"]
def wsX6_init_r4 : List Cond := [Cond.fieldLink RX3 24 "BendOrders$Shape" "farX" "[I", Cond.fieldLink RX3 27 "BendOrders$Shape" "farY" "[I", Cond.methodLink RX6 46 yX1_init, Cond.instanceMethod yX1_init, Cond.code yX1_init cX1_init 1 none, Cond.methodLink RX1 3 objectInit, Cond.classLink RX1 9 RX2, Cond.fieldLink RX1 12 "BendOrders$Plan" "press" "LBendOrders$Press;", Cond.classLink RX1 18 RX4, Cond.fieldLink RX1 21 "BendOrders$Plan" "planned" "LBendOrders$State;", Cond.fieldLink RX1 25 "BendOrders$Plan" "made" "Z", Cond.fieldLink RX1 29 "BendOrders$Plan" "ways" "[I", Cond.fieldLink RX1 33 "BendOrders$Plan" "steps" "[I", Cond.arrayClass .boolean, Cond.fieldLink RX1 36 "BendOrders$Plan" "reached" "[Z", Cond.methodLink RX1 11 yX2_init, Cond.methodLink RX1 20 yX4_init]
def wsX6_init : List Cond := .code yX6_init cX6_init 1 none :: ((wsX6_init_r1 ++ (wsX6_init_r2 ++ (wsX6_init_r3 ++ wsX6_init_r4))) ++ wsX40 ++ wsX60 ++ wsX00 ++ wsX50 ++ wsX20 ++ wsX10 ++ wsX30)
def wsX6_takeStrip_r1 : List Cond := [Cond.fieldLink RX6 33 "BendOrders" "text" "LBendOrders$Text;", Cond.fieldLink RX6 26 "BendOrders" "history" "LBendOrders$History;", Cond.fieldLink RX6 10 "BendOrders" "now" "LBendOrders$State;", Cond.fieldLink RX6 66 "BendOrders$State" "bends" "I", Cond.methodLink RX6 51 yX5_fault, Cond.instanceMethod yX5_fault, Cond.selects RX5 yX5_fault yX5_fault, Cond.initialized RX5, Cond.code yX5_fault cX5_fault 2 (some .int), Cond.fieldLink RX5 9 "BendOrders$Text" "size" "I", Cond.methodLink RX5 19 yX5_isAllowed, Cond.instanceMethod yX5_isAllowed, Cond.selects RX5 yX5_isAllowed yX5_isAllowed, Cond.code yX5_isAllowed cX5_isAllowed 3 (some .boolean), Cond.methodLink RX5 23 yX5_signAt, Cond.instanceMethod yX5_signAt, Cond.selects RX5 yX5_signAt yX5_signAt, Cond.code yX5_signAt cX5_signAt 2 (some .char), Cond.fieldLink RX5 15 "BendOrders$Text" "signs" "[C", Cond.methodLink RX6 55 yX0_record, Cond.instanceMethod yX0_record, Cond.selects RX0 yX0_record yX0_record, Cond.initialized RX0, Cond.code yX0_record cX0_record 3 none]
def wsX6_takeStrip_r2 : List Cond := [Cond.fieldLink RX0 9 "BendOrders$History" "size" "I", Cond.fieldLink RX0 17 "BendOrders$History" "states" "[LBendOrders$State;", Cond.methodLink RX0 22 yX0_dropOldest, Cond.instanceMethod yX0_dropOldest, Cond.selects RX0 yX0_dropOldest yX0_dropOldest, Cond.code yX0_dropOldest cX0_dropOldest 3 none, Cond.methodLink RX0 25 yX0_rowAt, Cond.instanceMethod yX0_rowAt, Cond.selects RX0 yX0_rowAt yX0_rowAt, Cond.code yX0_rowAt cX0_rowAt 2 (some (.object "BendOrders$State")), Cond.methodLink RX0 29 yX4_copyFrom, Cond.instanceMethod yX4_copyFrom, Cond.selects RX4 yX4_copyFrom yX4_copyFrom, Cond.initialized RX4, Cond.code yX4_copyFrom cX4_copyFrom 2 none, Cond.fieldLink RX4 9 "BendOrders$State" "bends" "I", Cond.fieldLink RX4 15 "BendOrders$State" "ups" "I", Cond.fieldLink RX4 18 "BendOrders$State" "done" "I", Cond.fieldLink RX4 21 "BendOrders$State" "over" "Z", Cond.fieldLink RX4 25 "BendOrders$State" "bendings" "I", Cond.fieldLink RX4 28 "BendOrders$State" "lengths" "[I", Cond.methodLink RX4 38 arraycopyName, Cond.native arraycopyName, Cond.static arraycopyName]
def wsX6_takeStrip_r3 : List Cond := [Cond.initialized "java/lang/System", Cond.fieldLink RX4 35 "BendOrders$State" "settings" "[I", Cond.methodLink RX6 59 yX5_pairs, Cond.instanceMethod yX5_pairs, Cond.selects RX5 yX5_pairs yX5_pairs, Cond.code yX5_pairs cX5_pairs 1 (some .int), Cond.methodLink RX6 62 yX4_beginStrip, Cond.instanceMethod yX4_beginStrip, Cond.selects RX4 yX4_beginStrip yX4_beginStrip, Cond.code yX4_beginStrip cX4_beginStrip 2 none, Cond.methodLink RX4 44 Lib.Math.min.name, Cond.static Lib.Math.min.name, Cond.initialized "java/lang/Math", Cond.code Lib.Math.min.name Lib.Math.min.code 2 (some .int), Cond.methodLink RX4 50 Lib.Math.max.name, Cond.static Lib.Math.max.name, Cond.code Lib.Math.max.name Lib.Math.max.code 2 (some .int), Cond.methodLink RX6 70 yX5_signAt, Cond.methodLink RX6 74 yX4_putLength, Cond.instanceMethod yX4_putLength, Cond.selects RX4 yX4_putLength yX4_putLength, Cond.code yX4_putLength cX4_putLength 3 none, Cond.methodLink RX6 78 yX4_putUp, Cond.instanceMethod yX4_putUp]
def wsX6_takeStrip_r4 : List Cond := [Cond.selects RX4 yX4_putUp yX4_putUp, Cond.code yX4_putUp cX4_putUp 3 none]
def wsX6_takeStrip : List Cond := .code yX6_takeStrip cX6_takeStrip 3 (some .int) :: ((wsX6_takeStrip_r1 ++ (wsX6_takeStrip_r2 ++ (wsX6_takeStrip_r3 ++ wsX6_takeStrip_r4))) ++ wsX60 ++ wsX40 ++ wsX50 ++ wsX00)
def wsX6_setLength_r1 : List Cond := [Cond.fieldLink RX6 10 "BendOrders" "now" "LBendOrders$State;", Cond.fieldLink RX6 86 "BendOrders$State" "done" "I", Cond.fieldLink RX6 26 "BendOrders" "history" "LBendOrders$History;", Cond.methodLink RX6 82 yX4_hasFlange, Cond.instanceMethod yX4_hasFlange, Cond.selects RX4 yX4_hasFlange yX4_hasFlange, Cond.initialized RX4, Cond.code yX4_hasFlange cX4_hasFlange 2 (some .boolean), Cond.fieldLink RX4 9 "BendOrders$State" "bends" "I", Cond.methodLink RX6 89 yX4_lengthAt, Cond.instanceMethod yX4_lengthAt, Cond.selects RX4 yX4_lengthAt yX4_lengthAt, Cond.code yX4_lengthAt cX4_lengthAt 2 (some .int), Cond.fieldLink RX4 28 "BendOrders$State" "lengths" "[I", Cond.methodLink RX6 55 yX0_record, Cond.instanceMethod yX0_record, Cond.selects RX0 yX0_record yX0_record, Cond.initialized RX0, Cond.code yX0_record cX0_record 3 none, Cond.fieldLink RX0 9 "BendOrders$History" "size" "I", Cond.fieldLink RX0 17 "BendOrders$History" "states" "[LBendOrders$State;", Cond.methodLink RX0 22 yX0_dropOldest, Cond.instanceMethod yX0_dropOldest, Cond.selects RX0 yX0_dropOldest yX0_dropOldest]
def wsX6_setLength_r2 : List Cond := [Cond.code yX0_dropOldest cX0_dropOldest 3 none, Cond.methodLink RX0 25 yX0_rowAt, Cond.instanceMethod yX0_rowAt, Cond.selects RX0 yX0_rowAt yX0_rowAt, Cond.code yX0_rowAt cX0_rowAt 2 (some (.object "BendOrders$State")), Cond.methodLink RX0 29 yX4_copyFrom, Cond.instanceMethod yX4_copyFrom, Cond.selects RX4 yX4_copyFrom yX4_copyFrom, Cond.code yX4_copyFrom cX4_copyFrom 2 none, Cond.fieldLink RX4 15 "BendOrders$State" "ups" "I", Cond.fieldLink RX4 18 "BendOrders$State" "done" "I", Cond.fieldLink RX4 21 "BendOrders$State" "over" "Z", Cond.fieldLink RX4 25 "BendOrders$State" "bendings" "I", Cond.methodLink RX4 38 arraycopyName, Cond.native arraycopyName, Cond.static arraycopyName, Cond.initialized "java/lang/System", Cond.fieldLink RX4 35 "BendOrders$State" "settings" "[I", Cond.methodLink RX6 74 yX4_putLength, Cond.instanceMethod yX4_putLength, Cond.selects RX4 yX4_putLength yX4_putLength, Cond.code yX4_putLength cX4_putLength 3 none]
def wsX6_setLength : List Cond := .code yX6_setLength cX6_setLength 4 (some .int) :: ((wsX6_setLength_r1 ++ wsX6_setLength_r2) ++ wsX60 ++ wsX40 ++ wsX00)
def wsX6_setUp_r1 : List Cond := [Cond.fieldLink RX6 10 "BendOrders" "now" "LBendOrders$State;", Cond.fieldLink RX6 86 "BendOrders$State" "done" "I", Cond.fieldLink RX6 26 "BendOrders" "history" "LBendOrders$History;", Cond.fieldLink RX6 99 "BendOrders$State" "ups" "I", Cond.methodLink RX6 93 yX4_hasBend, Cond.instanceMethod yX4_hasBend, Cond.selects RX4 yX4_hasBend yX4_hasBend, Cond.initialized RX4, Cond.code yX4_hasBend cX4_hasBend 2 (some .boolean), Cond.fieldLink RX4 9 "BendOrders$State" "bends" "I", Cond.methodLink RX6 96 yX4_isUp, Cond.instanceMethod yX4_isUp, Cond.selects RX4 yX4_isUp yX4_isUp, Cond.code yX4_isUp cX4_isUp 2 (some .boolean), Cond.fieldLink RX4 15 "BendOrders$State" "ups" "I", Cond.methodLink RX6 55 yX0_record, Cond.instanceMethod yX0_record, Cond.selects RX0 yX0_record yX0_record, Cond.initialized RX0, Cond.code yX0_record cX0_record 3 none, Cond.fieldLink RX0 9 "BendOrders$History" "size" "I", Cond.fieldLink RX0 17 "BendOrders$History" "states" "[LBendOrders$State;", Cond.methodLink RX0 22 yX0_dropOldest, Cond.instanceMethod yX0_dropOldest]
def wsX6_setUp_r2 : List Cond := [Cond.selects RX0 yX0_dropOldest yX0_dropOldest, Cond.code yX0_dropOldest cX0_dropOldest 3 none, Cond.methodLink RX0 25 yX0_rowAt, Cond.instanceMethod yX0_rowAt, Cond.selects RX0 yX0_rowAt yX0_rowAt, Cond.code yX0_rowAt cX0_rowAt 2 (some (.object "BendOrders$State")), Cond.methodLink RX0 29 yX4_copyFrom, Cond.instanceMethod yX4_copyFrom, Cond.selects RX4 yX4_copyFrom yX4_copyFrom, Cond.code yX4_copyFrom cX4_copyFrom 2 none, Cond.fieldLink RX4 18 "BendOrders$State" "done" "I", Cond.fieldLink RX4 21 "BendOrders$State" "over" "Z", Cond.fieldLink RX4 25 "BendOrders$State" "bendings" "I", Cond.fieldLink RX4 28 "BendOrders$State" "lengths" "[I", Cond.methodLink RX4 38 arraycopyName, Cond.native arraycopyName, Cond.static arraycopyName, Cond.initialized "java/lang/System", Cond.fieldLink RX4 35 "BendOrders$State" "settings" "[I", Cond.methodLink RX6 78 yX4_putUp, Cond.instanceMethod yX4_putUp, Cond.selects RX4 yX4_putUp yX4_putUp, Cond.code yX4_putUp cX4_putUp 3 none, Cond.methodLink RX6 102 yJ6_bitCount_0f7a4]
def wsX6_setUp_r3 : List Cond := [Cond.static yJ6_bitCount_0f7a4, Cond.initialized RJ6, Cond.code yJ6_bitCount_0f7a4 cJ6_bitCount_0f7a4 1 (some .int), Cond.constant RJ6 265 (1431655765), Cond.constant RJ6 266 (858993459), Cond.constant RJ6 267 (252645135)]
def wsX6_setUp : List Cond := .code yX6_setUp cX6_setUp 3 (some .int) :: ((wsX6_setUp_r1 ++ (wsX6_setUp_r2 ++ wsX6_setUp_r3)) ++ wsX60 ++ wsX40 ++ wsX00)
def wsX6_mayBeSet : List Cond := .code yX6_mayBeSet cX6_mayBeSet 2 (some .boolean) :: ([.fieldLink RX6 117 "BendOrders" "LEAST_SETTINGS" "[I", .fieldLink RX6 121 "BendOrders" "MOST_SETTINGS" "[I"])
def wsX6_set_r1 : List Cond := [Cond.fieldLink RX6 10 "BendOrders" "now" "LBendOrders$State;", Cond.fieldLink RX6 26 "BendOrders" "history" "LBendOrders$History;", Cond.methodLink RX6 107 yX6_mayBeSet, Cond.static yX6_mayBeSet, Cond.initialized RX6, Cond.code yX6_mayBeSet cX6_mayBeSet 2 (some .boolean), Cond.fieldLink RX6 117 "BendOrders" "LEAST_SETTINGS" "[I", Cond.fieldLink RX6 121 "BendOrders" "MOST_SETTINGS" "[I", Cond.methodLink RX6 111 yX4_settingAt, Cond.instanceMethod yX4_settingAt, Cond.selects RX4 yX4_settingAt yX4_settingAt, Cond.initialized RX4, Cond.code yX4_settingAt cX4_settingAt 2 (some .int), Cond.fieldLink RX4 35 "BendOrders$State" "settings" "[I", Cond.methodLink RX6 55 yX0_record, Cond.instanceMethod yX0_record, Cond.selects RX0 yX0_record yX0_record, Cond.initialized RX0, Cond.code yX0_record cX0_record 3 none, Cond.fieldLink RX0 9 "BendOrders$History" "size" "I", Cond.fieldLink RX0 17 "BendOrders$History" "states" "[LBendOrders$State;", Cond.methodLink RX0 22 yX0_dropOldest, Cond.instanceMethod yX0_dropOldest, Cond.selects RX0 yX0_dropOldest yX0_dropOldest]
def wsX6_set_r2 : List Cond := [Cond.code yX0_dropOldest cX0_dropOldest 3 none, Cond.methodLink RX0 25 yX0_rowAt, Cond.instanceMethod yX0_rowAt, Cond.selects RX0 yX0_rowAt yX0_rowAt, Cond.code yX0_rowAt cX0_rowAt 2 (some (.object "BendOrders$State")), Cond.methodLink RX0 29 yX4_copyFrom, Cond.instanceMethod yX4_copyFrom, Cond.selects RX4 yX4_copyFrom yX4_copyFrom, Cond.code yX4_copyFrom cX4_copyFrom 2 none, Cond.fieldLink RX4 9 "BendOrders$State" "bends" "I", Cond.fieldLink RX4 15 "BendOrders$State" "ups" "I", Cond.fieldLink RX4 18 "BendOrders$State" "done" "I", Cond.fieldLink RX4 21 "BendOrders$State" "over" "Z", Cond.fieldLink RX4 25 "BendOrders$State" "bendings" "I", Cond.fieldLink RX4 28 "BendOrders$State" "lengths" "[I", Cond.methodLink RX4 38 arraycopyName, Cond.native arraycopyName, Cond.static arraycopyName, Cond.initialized "java/lang/System", Cond.methodLink RX6 114 yX4_putSetting, Cond.instanceMethod yX4_putSetting, Cond.selects RX4 yX4_putSetting yX4_putSetting, Cond.code yX4_putSetting cX4_putSetting 3 none]
def wsX6_set : List Cond := .code yX6_set cX6_set 4 (some .int) :: ((wsX6_set_r1 ++ wsX6_set_r2) ++ wsX60 ++ wsX40 ++ wsX00)
def wsX6_asNumber : List Cond := .code yX6_asNumber cX6_asNumber 1 (some .int) :: ([])
def wsX6_layOver_r1 : List Cond := [Cond.fieldLink RX6 26 "BendOrders" "history" "LBendOrders$History;", Cond.fieldLink RX6 10 "BendOrders" "now" "LBendOrders$State;", Cond.fieldLink RX6 124 "BendOrders$State" "over" "Z", Cond.methodLink RX6 55 yX0_record, Cond.instanceMethod yX0_record, Cond.selects RX0 yX0_record yX0_record, Cond.initialized RX0, Cond.code yX0_record cX0_record 3 none, Cond.fieldLink RX0 9 "BendOrders$History" "size" "I", Cond.fieldLink RX0 17 "BendOrders$History" "states" "[LBendOrders$State;", Cond.methodLink RX0 22 yX0_dropOldest, Cond.instanceMethod yX0_dropOldest, Cond.selects RX0 yX0_dropOldest yX0_dropOldest, Cond.code yX0_dropOldest cX0_dropOldest 3 none, Cond.methodLink RX0 25 yX0_rowAt, Cond.instanceMethod yX0_rowAt, Cond.selects RX0 yX0_rowAt yX0_rowAt, Cond.code yX0_rowAt cX0_rowAt 2 (some (.object "BendOrders$State")), Cond.methodLink RX0 29 yX4_copyFrom, Cond.instanceMethod yX4_copyFrom, Cond.selects RX4 yX4_copyFrom yX4_copyFrom, Cond.initialized RX4, Cond.code yX4_copyFrom cX4_copyFrom 2 none, Cond.fieldLink RX4 9 "BendOrders$State" "bends" "I"]
def wsX6_layOver_r2 : List Cond := [Cond.fieldLink RX4 15 "BendOrders$State" "ups" "I", Cond.fieldLink RX4 18 "BendOrders$State" "done" "I", Cond.fieldLink RX4 21 "BendOrders$State" "over" "Z", Cond.fieldLink RX4 25 "BendOrders$State" "bendings" "I", Cond.fieldLink RX4 28 "BendOrders$State" "lengths" "[I", Cond.methodLink RX4 38 arraycopyName, Cond.native arraycopyName, Cond.static arraycopyName, Cond.initialized "java/lang/System", Cond.fieldLink RX4 35 "BendOrders$State" "settings" "[I", Cond.methodLink RX6 127 yX6_asNumber, Cond.static yX6_asNumber, Cond.initialized RX6, Cond.code yX6_asNumber cX6_asNumber 1 (some .int)]
def wsX6_layOver : List Cond := .code yX6_layOver cX6_layOver 1 (some .int) :: ((wsX6_layOver_r1 ++ wsX6_layOver_r2) ++ wsX60 ++ wsX40 ++ wsX00)
def wsX6_bend_r1 : List Cond := [Cond.fieldLink RX6 10 "BendOrders" "now" "LBendOrders$State;", Cond.fieldLink RX6 40 "BendOrders" "press" "LBendOrders$Press;", Cond.fieldLink RX6 86 "BendOrders$State" "done" "I", Cond.fieldLink RX6 124 "BendOrders$State" "over" "Z", Cond.fieldLink RX6 26 "BendOrders" "history" "LBendOrders$History;", Cond.methodLink RX6 93 yX4_hasBend, Cond.instanceMethod yX4_hasBend, Cond.selects RX4 yX4_hasBend yX4_hasBend, Cond.initialized RX4, Cond.code yX4_hasBend cX4_hasBend 2 (some .boolean), Cond.fieldLink RX4 9 "BendOrders$State" "bends" "I", Cond.methodLink RX6 131 yX2_reason, Cond.instanceMethod yX2_reason, Cond.selects RX2 yX2_reason yX2_reason, Cond.initialized RX2, Cond.code yX2_reason cX2_reason 7 (some .int), Cond.fieldLink RX2 12 "BendOrders$Press" "shape" "LBendOrders$Shape;", Cond.methodLink RX2 18 yX4_isUp, Cond.instanceMethod yX4_isUp, Cond.selects RX4 yX4_isUp yX4_isUp, Cond.code yX4_isUp cX4_isUp 2 (some .boolean), Cond.fieldLink RX4 15 "BendOrders$State" "ups" "I", Cond.methodLink RX2 24 yX4_clampedLength, Cond.instanceMethod yX4_clampedLength]
def wsX6_bend_r2 : List Cond := [Cond.selects RX4 yX4_clampedLength yX4_clampedLength, Cond.code yX4_clampedLength cX4_clampedLength 5 (some .int), Cond.methodLink RX4 63 yX4_lengthAt, Cond.instanceMethod yX4_lengthAt, Cond.selects RX4 yX4_lengthAt yX4_lengthAt, Cond.code yX4_lengthAt cX4_lengthAt 2 (some .int), Cond.fieldLink RX4 28 "BendOrders$State" "lengths" "[I", Cond.methodLink RX2 28 yX4_settingAt, Cond.instanceMethod yX4_settingAt, Cond.selects RX4 yX4_settingAt yX4_settingAt, Cond.code yX4_settingAt cX4_settingAt 2 (some .int), Cond.fieldLink RX4 35 "BendOrders$State" "settings" "[I", Cond.methodLink RX2 32 yX3_layFlat, Cond.instanceMethod yX3_layFlat, Cond.selects RX3 yX3_layFlat yX3_layFlat, Cond.initialized RX3, Cond.code yX3_layFlat cX3_layFlat 7 none, Cond.fieldLink RX3 30 "BendOrders$State" "bends" "I", Cond.methodLink RX3 36 Lib.Math.min.name, Cond.static Lib.Math.min.name, Cond.initialized "java/lang/Math", Cond.code Lib.Math.min.name Lib.Math.min.code 2 (some .int), Cond.fieldLink RX3 42 "BendOrders$Shape" "flanges" "I", Cond.methodLink RX3 45 yX3_startAtTool]
def wsX6_bend_r3 : List Cond := [Cond.instanceMethod yX3_startAtTool, Cond.selects RX3 yX3_startAtTool yX3_startAtTool, Cond.code yX3_startAtTool cX3_startAtTool 2 none, Cond.fieldLink RX3 65 "BendOrders$Shape" "x" "I", Cond.fieldLink RX3 68 "BendOrders$Shape" "y" "I", Cond.fieldLink RX3 71 "BendOrders$Shape" "stepX" "I", Cond.fieldLink RX3 74 "BendOrders$Shape" "stepY" "I", Cond.methodLink RX3 49 yX4_isUp, Cond.methodLink RX3 53 yX3_turnAt, Cond.instanceMethod yX3_turnAt, Cond.selects RX3 yX3_turnAt yX3_turnAt, Cond.code yX3_turnAt cX3_turnAt 5 none, Cond.methodLink RX3 57 yX4_lengthAt, Cond.methodLink RX3 61 yX3_draw, Cond.instanceMethod yX3_draw, Cond.selects RX3 yX3_draw yX3_draw, Cond.code yX3_draw cX3_draw 5 none, Cond.fieldLink RX3 9 "BendOrders$Shape" "left" "[I", Cond.fieldLink RX3 15 "BendOrders$Shape" "right" "[I", Cond.fieldLink RX3 18 "BendOrders$Shape" "bottom" "[I", Cond.fieldLink RX3 21 "BendOrders$Shape" "top" "[I", Cond.fieldLink RX3 24 "BendOrders$Shape" "farX" "[I", Cond.fieldLink RX3 27 "BendOrders$Shape" "farY" "[I", Cond.methodLink RX2 36 yX2_inUpper]
def wsX6_bend_r4 : List Cond := [Cond.instanceMethod yX2_inUpper, Cond.selects RX2 yX2_inUpper yX2_inUpper, Cond.code yX2_inUpper cX2_inUpper 6 (some .int), Cond.methodLink RX2 66 Lib.Math.min.name, Cond.methodLink RX2 71 yX3_flangesIn, Cond.instanceMethod yX3_flangesIn, Cond.selects RX3 yX3_flangesIn yX3_flangesIn, Cond.code yX3_flangesIn cX3_flangesIn 10 (some .int), Cond.methodLink RX2 40 yX2_inLower, Cond.instanceMethod yX2_inLower, Cond.selects RX2 yX2_inLower yX2_inLower, Cond.code yX2_inLower cX2_inLower 1 (some .int), Cond.methodLink RX2 44 yX3_swingUp, Cond.instanceMethod yX3_swingUp, Cond.selects RX3 yX3_swingUp yX3_swingUp, Cond.code yX3_swingUp cX3_swingUp 5 none, Cond.methodLink RX2 48 yX3_strikesItself, Cond.instanceMethod yX3_strikesItself, Cond.selects RX3 yX3_strikesItself yX3_strikesItself, Cond.code yX3_strikesItself cX3_strikesItself 3 (some .boolean), Cond.methodLink RX3 77 yX3_flangesIn, Cond.methodLink RX6 55 yX0_record, Cond.instanceMethod yX0_record, Cond.selects RX0 yX0_record yX0_record]
def wsX6_bend_r5 : List Cond := [Cond.initialized RX0, Cond.code yX0_record cX0_record 3 none, Cond.fieldLink RX0 9 "BendOrders$History" "size" "I", Cond.fieldLink RX0 17 "BendOrders$History" "states" "[LBendOrders$State;", Cond.methodLink RX0 22 yX0_dropOldest, Cond.instanceMethod yX0_dropOldest, Cond.selects RX0 yX0_dropOldest yX0_dropOldest, Cond.code yX0_dropOldest cX0_dropOldest 3 none, Cond.methodLink RX0 25 yX0_rowAt, Cond.instanceMethod yX0_rowAt, Cond.selects RX0 yX0_rowAt yX0_rowAt, Cond.code yX0_rowAt cX0_rowAt 2 (some (.object "BendOrders$State")), Cond.methodLink RX0 29 yX4_copyFrom, Cond.instanceMethod yX4_copyFrom, Cond.selects RX4 yX4_copyFrom yX4_copyFrom, Cond.code yX4_copyFrom cX4_copyFrom 2 none, Cond.fieldLink RX4 18 "BendOrders$State" "done" "I", Cond.fieldLink RX4 21 "BendOrders$State" "over" "Z", Cond.fieldLink RX4 25 "BendOrders$State" "bendings" "I", Cond.methodLink RX4 38 arraycopyName, Cond.native arraycopyName, Cond.static arraycopyName, Cond.initialized "java/lang/System", Cond.methodLink RX6 135 yX4_doBend]
def wsX6_bend_r6 : List Cond := [Cond.instanceMethod yX4_doBend, Cond.selects RX4 yX4_doBend yX4_doBend, Cond.code yX4_doBend cX4_doBend 2 none, Cond.methodLink RX6 138 yX4_doneBends, Cond.instanceMethod yX4_doneBends, Cond.selects RX4 yX4_doneBends yX4_doneBends, Cond.code yX4_doneBends cX4_doneBends 1 (some .int), Cond.methodLink RX4 53 yJ6_bitCount_0f7a4, Cond.static yJ6_bitCount_0f7a4, Cond.initialized RJ6, Cond.code yJ6_bitCount_0f7a4 cJ6_bitCount_0f7a4 1 (some .int), Cond.constant RJ6 265 (1431655765), Cond.constant RJ6 266 (858993459), Cond.constant RJ6 267 (252645135)]
def wsX6_bend : List Cond := .code yX6_bend cX6_bend 2 (some .int) :: ((wsX6_bend_r1 ++ (wsX6_bend_r2 ++ (wsX6_bend_r3 ++ (wsX6_bend_r4 ++ (wsX6_bend_r5 ++ wsX6_bend_r6))))) ++ wsX60 ++ wsX40 ++ wsX20 ++ wsX30 ++ wsX00)
def wsX6_flatten_r1 : List Cond := [Cond.fieldLink RX6 10 "BendOrders" "now" "LBendOrders$State;", Cond.fieldLink RX6 26 "BendOrders" "history" "LBendOrders$History;", Cond.fieldLink RX6 86 "BendOrders$State" "done" "I", Cond.methodLink RX6 93 yX4_hasBend, Cond.instanceMethod yX4_hasBend, Cond.selects RX4 yX4_hasBend yX4_hasBend, Cond.initialized RX4, Cond.code yX4_hasBend cX4_hasBend 2 (some .boolean), Cond.fieldLink RX4 9 "BendOrders$State" "bends" "I", Cond.methodLink RX6 141 yX4_isDone, Cond.instanceMethod yX4_isDone, Cond.selects RX4 yX4_isDone yX4_isDone, Cond.code yX4_isDone cX4_isDone 2 (some .boolean), Cond.fieldLink RX4 18 "BendOrders$State" "done" "I", Cond.methodLink RX6 55 yX0_record, Cond.instanceMethod yX0_record, Cond.selects RX0 yX0_record yX0_record, Cond.initialized RX0, Cond.code yX0_record cX0_record 3 none, Cond.fieldLink RX0 9 "BendOrders$History" "size" "I", Cond.fieldLink RX0 17 "BendOrders$History" "states" "[LBendOrders$State;", Cond.methodLink RX0 22 yX0_dropOldest, Cond.instanceMethod yX0_dropOldest, Cond.selects RX0 yX0_dropOldest yX0_dropOldest]
def wsX6_flatten_r2 : List Cond := [Cond.code yX0_dropOldest cX0_dropOldest 3 none, Cond.methodLink RX0 25 yX0_rowAt, Cond.instanceMethod yX0_rowAt, Cond.selects RX0 yX0_rowAt yX0_rowAt, Cond.code yX0_rowAt cX0_rowAt 2 (some (.object "BendOrders$State")), Cond.methodLink RX0 29 yX4_copyFrom, Cond.instanceMethod yX4_copyFrom, Cond.selects RX4 yX4_copyFrom yX4_copyFrom, Cond.code yX4_copyFrom cX4_copyFrom 2 none, Cond.fieldLink RX4 15 "BendOrders$State" "ups" "I", Cond.fieldLink RX4 21 "BendOrders$State" "over" "Z", Cond.fieldLink RX4 25 "BendOrders$State" "bendings" "I", Cond.fieldLink RX4 28 "BendOrders$State" "lengths" "[I", Cond.methodLink RX4 38 arraycopyName, Cond.native arraycopyName, Cond.static arraycopyName, Cond.initialized "java/lang/System", Cond.fieldLink RX4 35 "BendOrders$State" "settings" "[I", Cond.methodLink RX6 138 yX4_doneBends, Cond.instanceMethod yX4_doneBends, Cond.selects RX4 yX4_doneBends yX4_doneBends, Cond.code yX4_doneBends cX4_doneBends 1 (some .int), Cond.methodLink RX4 53 yJ6_bitCount_0f7a4, Cond.static yJ6_bitCount_0f7a4]
def wsX6_flatten_r3 : List Cond := [Cond.initialized RJ6, Cond.code yJ6_bitCount_0f7a4 cJ6_bitCount_0f7a4 1 (some .int), Cond.constant RJ6 265 (1431655765), Cond.constant RJ6 266 (858993459), Cond.constant RJ6 267 (252645135)]
def wsX6_flatten : List Cond := .code yX6_flatten cX6_flatten 2 (some .int) :: ((wsX6_flatten_r1 ++ (wsX6_flatten_r2 ++ wsX6_flatten_r3)) ++ wsX60 ++ wsX40 ++ wsX00)
def wsX6_hasOrder_r1 : List Cond := [Cond.fieldLink RX6 47 "BendOrders" "plan" "LBendOrders$Plan;", Cond.fieldLink RX6 10 "BendOrders" "now" "LBendOrders$State;", Cond.fieldLink RX6 86 "BendOrders$State" "done" "I", Cond.methodLink RX6 183 yX1_prepare, Cond.instanceMethod yX1_prepare, Cond.selects RX1 yX1_prepare yX1_prepare, Cond.initialized RX1, Cond.code yX1_prepare cX1_prepare 4 none, Cond.fieldLink RX1 25 "BendOrders$Plan" "made" "Z", Cond.fieldLink RX1 21 "BendOrders$Plan" "planned" "LBendOrders$State;", Cond.fieldLink RX1 29 "BendOrders$Plan" "ways" "[I", Cond.methodLink RX1 52 Lib.Math.min.name, Cond.static Lib.Math.min.name, Cond.initialized "java/lang/Math", Cond.code Lib.Math.min.name Lib.Math.min.code 2 (some .int), Cond.methodLink RX1 40 yX4_bendsLike, Cond.instanceMethod yX4_bendsLike, Cond.selects RX4 yX4_bendsLike yX4_bendsLike, Cond.initialized RX4, Cond.code yX4_bendsLike cX4_bendsLike 3 (some .boolean), Cond.fieldLink RX4 9 "BendOrders$State" "bends" "I", Cond.fieldLink RX4 15 "BendOrders$State" "ups" "I", Cond.methodLink RX4 63 yX4_lengthAt, Cond.instanceMethod yX4_lengthAt]
def wsX6_hasOrder_r2 : List Cond := [Cond.selects RX4 yX4_lengthAt yX4_lengthAt, Cond.code yX4_lengthAt cX4_lengthAt 2 (some .int), Cond.fieldLink RX4 28 "BendOrders$State" "lengths" "[I", Cond.methodLink RX4 66 yX4_settingAt, Cond.instanceMethod yX4_settingAt, Cond.selects RX4 yX4_settingAt yX4_settingAt, Cond.code yX4_settingAt cX4_settingAt 2 (some .int), Cond.fieldLink RX4 35 "BendOrders$State" "settings" "[I", Cond.methodLink RX1 44 yX4_copyFrom, Cond.instanceMethod yX4_copyFrom, Cond.selects RX4 yX4_copyFrom yX4_copyFrom, Cond.code yX4_copyFrom cX4_copyFrom 2 none, Cond.fieldLink RX4 18 "BendOrders$State" "done" "I", Cond.fieldLink RX4 21 "BendOrders$State" "over" "Z", Cond.fieldLink RX4 25 "BendOrders$State" "bendings" "I", Cond.methodLink RX4 38 arraycopyName, Cond.native arraycopyName, Cond.static arraycopyName, Cond.initialized "java/lang/System", Cond.methodLink RX1 48 yX4_allBends, Cond.instanceMethod yX4_allBends, Cond.selects RX4 yX4_allBends yX4_allBends, Cond.code yX4_allBends cX4_allBends 1 (some .int), Cond.methodLink RX1 58 yX1_fillRow]
def wsX6_hasOrder_r3 : List Cond := [Cond.instanceMethod yX1_fillRow, Cond.selects RX1 yX1_fillRow yX1_fillRow, Cond.code yX1_fillRow cX1_fillRow 8 none, Cond.fieldLink RX1 62 "BendOrders$State" "bends" "I", Cond.fieldLink RX1 12 "BendOrders$Plan" "press" "LBendOrders$Press;", Cond.fieldLink RX1 33 "BendOrders$Plan" "steps" "[I", Cond.methodLink RX1 66 yX1_waysFrom, Cond.instanceMethod yX1_waysFrom, Cond.selects RX1 yX1_waysFrom yX1_waysFrom, Cond.code yX1_waysFrom cX1_waysFrom 2 (some .int), Cond.methodLink RX1 70 yX4_isUp, Cond.instanceMethod yX4_isUp, Cond.selects RX4 yX4_isUp yX4_isUp, Cond.code yX4_isUp cX4_isUp 2 (some .boolean), Cond.methodLink RX1 74 yX2_reason, Cond.instanceMethod yX2_reason, Cond.selects RX2 yX2_reason yX2_reason, Cond.initialized RX2, Cond.code yX2_reason cX2_reason 7 (some .int), Cond.fieldLink RX2 12 "BendOrders$Press" "shape" "LBendOrders$Shape;", Cond.methodLink RX2 18 yX4_isUp, Cond.methodLink RX2 24 yX4_clampedLength, Cond.instanceMethod yX4_clampedLength, Cond.selects RX4 yX4_clampedLength yX4_clampedLength]
def wsX6_hasOrder_r4 : List Cond := [Cond.code yX4_clampedLength cX4_clampedLength 5 (some .int), Cond.methodLink RX2 28 yX4_settingAt, Cond.methodLink RX2 32 yX3_layFlat, Cond.instanceMethod yX3_layFlat, Cond.selects RX3 yX3_layFlat yX3_layFlat, Cond.initialized RX3, Cond.code yX3_layFlat cX3_layFlat 7 none, Cond.fieldLink RX3 30 "BendOrders$State" "bends" "I", Cond.methodLink RX3 36 Lib.Math.min.name, Cond.fieldLink RX3 42 "BendOrders$Shape" "flanges" "I", Cond.methodLink RX3 45 yX3_startAtTool, Cond.instanceMethod yX3_startAtTool, Cond.selects RX3 yX3_startAtTool yX3_startAtTool, Cond.code yX3_startAtTool cX3_startAtTool 2 none, Cond.fieldLink RX3 65 "BendOrders$Shape" "x" "I", Cond.fieldLink RX3 68 "BendOrders$Shape" "y" "I", Cond.fieldLink RX3 71 "BendOrders$Shape" "stepX" "I", Cond.fieldLink RX3 74 "BendOrders$Shape" "stepY" "I", Cond.methodLink RX3 49 yX4_isUp, Cond.methodLink RX3 53 yX3_turnAt, Cond.instanceMethod yX3_turnAt, Cond.selects RX3 yX3_turnAt yX3_turnAt, Cond.code yX3_turnAt cX3_turnAt 5 none, Cond.methodLink RX3 57 yX4_lengthAt]
def wsX6_hasOrder_r5 : List Cond := [Cond.methodLink RX3 61 yX3_draw, Cond.instanceMethod yX3_draw, Cond.selects RX3 yX3_draw yX3_draw, Cond.code yX3_draw cX3_draw 5 none, Cond.fieldLink RX3 9 "BendOrders$Shape" "left" "[I", Cond.fieldLink RX3 15 "BendOrders$Shape" "right" "[I", Cond.fieldLink RX3 18 "BendOrders$Shape" "bottom" "[I", Cond.fieldLink RX3 21 "BendOrders$Shape" "top" "[I", Cond.fieldLink RX3 24 "BendOrders$Shape" "farX" "[I", Cond.fieldLink RX3 27 "BendOrders$Shape" "farY" "[I", Cond.methodLink RX2 36 yX2_inUpper, Cond.instanceMethod yX2_inUpper, Cond.selects RX2 yX2_inUpper yX2_inUpper, Cond.code yX2_inUpper cX2_inUpper 6 (some .int), Cond.methodLink RX2 66 Lib.Math.min.name, Cond.methodLink RX2 71 yX3_flangesIn, Cond.instanceMethod yX3_flangesIn, Cond.selects RX3 yX3_flangesIn yX3_flangesIn, Cond.code yX3_flangesIn cX3_flangesIn 10 (some .int), Cond.methodLink RX2 40 yX2_inLower, Cond.instanceMethod yX2_inLower, Cond.selects RX2 yX2_inLower yX2_inLower, Cond.code yX2_inLower cX2_inLower 1 (some .int), Cond.methodLink RX2 44 yX3_swingUp]
def wsX6_hasOrder_r6 : List Cond := [Cond.instanceMethod yX3_swingUp, Cond.selects RX3 yX3_swingUp yX3_swingUp, Cond.code yX3_swingUp cX3_swingUp 5 none, Cond.methodLink RX2 48 yX3_strikesItself, Cond.instanceMethod yX3_strikesItself, Cond.selects RX3 yX3_strikesItself yX3_strikesItself, Cond.code yX3_strikesItself cX3_strikesItself 3 (some .boolean), Cond.methodLink RX3 77 yX3_flangesIn, Cond.methodLink RX6 186 yX1_waysFrom]
def wsX6_hasOrder : List Cond := .code yX6_hasOrder cX6_hasOrder 1 (some .boolean) :: ((wsX6_hasOrder_r1 ++ (wsX6_hasOrder_r2 ++ (wsX6_hasOrder_r3 ++ (wsX6_hasOrder_r4 ++ (wsX6_hasOrder_r5 ++ wsX6_hasOrder_r6))))) ++ wsX60 ++ wsX40 ++ wsX10 ++ wsX20 ++ wsX30)
def wsX6_follow_r1 : List Cond := [Cond.fieldLink RX6 10 "BendOrders" "now" "LBendOrders$State;", Cond.fieldLink RX6 26 "BendOrders" "history" "LBendOrders$History;", Cond.methodLink RX6 151 Lib.Math.min.name, Cond.static Lib.Math.min.name, Cond.initialized "java/lang/Math", Cond.code Lib.Math.min.name Lib.Math.min.code 2 (some .int), Cond.fieldLink RX6 47 "BendOrders" "plan" "LBendOrders$Plan;", Cond.fieldLink RX6 86 "BendOrders$State" "done" "I", Cond.fieldLink RX6 124 "BendOrders$State" "over" "Z", Cond.methodLink RX6 144 yX6_hasOrder, Cond.instanceMethod yX6_hasOrder, Cond.selects RX6 yX6_hasOrder yX6_hasOrder, Cond.initialized RX6, Cond.code yX6_hasOrder cX6_hasOrder 1 (some .boolean), Cond.methodLink RX6 183 yX1_prepare, Cond.instanceMethod yX1_prepare, Cond.selects RX1 yX1_prepare yX1_prepare, Cond.initialized RX1, Cond.code yX1_prepare cX1_prepare 4 none, Cond.fieldLink RX1 25 "BendOrders$Plan" "made" "Z", Cond.fieldLink RX1 21 "BendOrders$Plan" "planned" "LBendOrders$State;", Cond.fieldLink RX1 29 "BendOrders$Plan" "ways" "[I", Cond.methodLink RX1 52 Lib.Math.min.name, Cond.methodLink RX1 40 yX4_bendsLike]
def wsX6_follow_r2 : List Cond := [Cond.instanceMethod yX4_bendsLike, Cond.selects RX4 yX4_bendsLike yX4_bendsLike, Cond.initialized RX4, Cond.code yX4_bendsLike cX4_bendsLike 3 (some .boolean), Cond.fieldLink RX4 9 "BendOrders$State" "bends" "I", Cond.fieldLink RX4 15 "BendOrders$State" "ups" "I", Cond.methodLink RX4 63 yX4_lengthAt, Cond.instanceMethod yX4_lengthAt, Cond.selects RX4 yX4_lengthAt yX4_lengthAt, Cond.code yX4_lengthAt cX4_lengthAt 2 (some .int), Cond.fieldLink RX4 28 "BendOrders$State" "lengths" "[I", Cond.methodLink RX4 66 yX4_settingAt, Cond.instanceMethod yX4_settingAt, Cond.selects RX4 yX4_settingAt yX4_settingAt, Cond.code yX4_settingAt cX4_settingAt 2 (some .int), Cond.fieldLink RX4 35 "BendOrders$State" "settings" "[I", Cond.methodLink RX1 44 yX4_copyFrom, Cond.instanceMethod yX4_copyFrom, Cond.selects RX4 yX4_copyFrom yX4_copyFrom, Cond.code yX4_copyFrom cX4_copyFrom 2 none, Cond.fieldLink RX4 18 "BendOrders$State" "done" "I", Cond.fieldLink RX4 21 "BendOrders$State" "over" "Z", Cond.fieldLink RX4 25 "BendOrders$State" "bendings" "I", Cond.methodLink RX4 38 arraycopyName]
def wsX6_follow_r3 : List Cond := [Cond.native arraycopyName, Cond.static arraycopyName, Cond.initialized "java/lang/System", Cond.methodLink RX1 48 yX4_allBends, Cond.instanceMethod yX4_allBends, Cond.selects RX4 yX4_allBends yX4_allBends, Cond.code yX4_allBends cX4_allBends 1 (some .int), Cond.methodLink RX1 58 yX1_fillRow, Cond.instanceMethod yX1_fillRow, Cond.selects RX1 yX1_fillRow yX1_fillRow, Cond.code yX1_fillRow cX1_fillRow 8 none, Cond.fieldLink RX1 62 "BendOrders$State" "bends" "I", Cond.fieldLink RX1 12 "BendOrders$Plan" "press" "LBendOrders$Press;", Cond.fieldLink RX1 33 "BendOrders$Plan" "steps" "[I", Cond.methodLink RX1 66 yX1_waysFrom, Cond.instanceMethod yX1_waysFrom, Cond.selects RX1 yX1_waysFrom yX1_waysFrom, Cond.code yX1_waysFrom cX1_waysFrom 2 (some .int), Cond.methodLink RX1 70 yX4_isUp, Cond.instanceMethod yX4_isUp, Cond.selects RX4 yX4_isUp yX4_isUp, Cond.code yX4_isUp cX4_isUp 2 (some .boolean), Cond.methodLink RX1 74 yX2_reason, Cond.instanceMethod yX2_reason]
def wsX6_follow_r4 : List Cond := [Cond.selects RX2 yX2_reason yX2_reason, Cond.initialized RX2, Cond.code yX2_reason cX2_reason 7 (some .int), Cond.fieldLink RX2 12 "BendOrders$Press" "shape" "LBendOrders$Shape;", Cond.methodLink RX2 18 yX4_isUp, Cond.methodLink RX2 24 yX4_clampedLength, Cond.instanceMethod yX4_clampedLength, Cond.selects RX4 yX4_clampedLength yX4_clampedLength, Cond.code yX4_clampedLength cX4_clampedLength 5 (some .int), Cond.methodLink RX2 28 yX4_settingAt, Cond.methodLink RX2 32 yX3_layFlat, Cond.instanceMethod yX3_layFlat, Cond.selects RX3 yX3_layFlat yX3_layFlat, Cond.initialized RX3, Cond.code yX3_layFlat cX3_layFlat 7 none, Cond.fieldLink RX3 30 "BendOrders$State" "bends" "I", Cond.methodLink RX3 36 Lib.Math.min.name, Cond.fieldLink RX3 42 "BendOrders$Shape" "flanges" "I", Cond.methodLink RX3 45 yX3_startAtTool, Cond.instanceMethod yX3_startAtTool, Cond.selects RX3 yX3_startAtTool yX3_startAtTool, Cond.code yX3_startAtTool cX3_startAtTool 2 none, Cond.fieldLink RX3 65 "BendOrders$Shape" "x" "I", Cond.fieldLink RX3 68 "BendOrders$Shape" "y" "I"]
def wsX6_follow_r5 : List Cond := [Cond.fieldLink RX3 71 "BendOrders$Shape" "stepX" "I", Cond.fieldLink RX3 74 "BendOrders$Shape" "stepY" "I", Cond.methodLink RX3 49 yX4_isUp, Cond.methodLink RX3 53 yX3_turnAt, Cond.instanceMethod yX3_turnAt, Cond.selects RX3 yX3_turnAt yX3_turnAt, Cond.code yX3_turnAt cX3_turnAt 5 none, Cond.methodLink RX3 57 yX4_lengthAt, Cond.methodLink RX3 61 yX3_draw, Cond.instanceMethod yX3_draw, Cond.selects RX3 yX3_draw yX3_draw, Cond.code yX3_draw cX3_draw 5 none, Cond.fieldLink RX3 9 "BendOrders$Shape" "left" "[I", Cond.fieldLink RX3 15 "BendOrders$Shape" "right" "[I", Cond.fieldLink RX3 18 "BendOrders$Shape" "bottom" "[I", Cond.fieldLink RX3 21 "BendOrders$Shape" "top" "[I", Cond.fieldLink RX3 24 "BendOrders$Shape" "farX" "[I", Cond.fieldLink RX3 27 "BendOrders$Shape" "farY" "[I", Cond.methodLink RX2 36 yX2_inUpper, Cond.instanceMethod yX2_inUpper, Cond.selects RX2 yX2_inUpper yX2_inUpper, Cond.code yX2_inUpper cX2_inUpper 6 (some .int), Cond.methodLink RX2 66 Lib.Math.min.name, Cond.methodLink RX2 71 yX3_flangesIn]
def wsX6_follow_r6 : List Cond := [Cond.instanceMethod yX3_flangesIn, Cond.selects RX3 yX3_flangesIn yX3_flangesIn, Cond.code yX3_flangesIn cX3_flangesIn 10 (some .int), Cond.methodLink RX2 40 yX2_inLower, Cond.instanceMethod yX2_inLower, Cond.selects RX2 yX2_inLower yX2_inLower, Cond.code yX2_inLower cX2_inLower 1 (some .int), Cond.methodLink RX2 44 yX3_swingUp, Cond.instanceMethod yX3_swingUp, Cond.selects RX3 yX3_swingUp yX3_swingUp, Cond.code yX3_swingUp cX3_swingUp 5 none, Cond.methodLink RX2 48 yX3_strikesItself, Cond.instanceMethod yX3_strikesItself, Cond.selects RX3 yX3_strikesItself yX3_strikesItself, Cond.code yX3_strikesItself cX3_strikesItself 3 (some .boolean), Cond.methodLink RX3 77 yX3_flangesIn, Cond.methodLink RX6 186 yX1_waysFrom, Cond.methodLink RX6 148 yX4_openBends, Cond.instanceMethod yX4_openBends, Cond.selects RX4 yX4_openBends yX4_openBends, Cond.code yX4_openBends cX4_openBends 1 (some .int), Cond.methodLink RX4 59 yX4_doneBends, Cond.instanceMethod yX4_doneBends, Cond.selects RX4 yX4_doneBends yX4_doneBends]
def wsX6_follow_r7 : List Cond := [Cond.code yX4_doneBends cX4_doneBends 1 (some .int), Cond.methodLink RX4 53 yJ6_bitCount_0f7a4, Cond.static yJ6_bitCount_0f7a4, Cond.initialized RJ6, Cond.code yJ6_bitCount_0f7a4 cJ6_bitCount_0f7a4 1 (some .int), Cond.constant RJ6 265 (1431655765), Cond.constant RJ6 266 (858993459), Cond.constant RJ6 267 (252645135), Cond.methodLink RX6 55 yX0_record, Cond.instanceMethod yX0_record, Cond.selects RX0 yX0_record yX0_record, Cond.initialized RX0, Cond.code yX0_record cX0_record 3 none, Cond.fieldLink RX0 9 "BendOrders$History" "size" "I", Cond.fieldLink RX0 17 "BendOrders$History" "states" "[LBendOrders$State;", Cond.methodLink RX0 22 yX0_dropOldest, Cond.instanceMethod yX0_dropOldest, Cond.selects RX0 yX0_dropOldest yX0_dropOldest, Cond.code yX0_dropOldest cX0_dropOldest 3 none, Cond.methodLink RX0 25 yX0_rowAt, Cond.instanceMethod yX0_rowAt, Cond.selects RX0 yX0_rowAt yX0_rowAt, Cond.code yX0_rowAt cX0_rowAt 2 (some (.object "BendOrders$State")), Cond.methodLink RX0 29 yX4_copyFrom]
def wsX6_follow_r8 : List Cond := [Cond.methodLink RX6 157 yX1_firstStep, Cond.instanceMethod yX1_firstStep, Cond.selects RX1 yX1_firstStep yX1_firstStep, Cond.code yX1_firstStep cX1_firstStep 4 (some .int), Cond.methodLink RX1 78 yX1_stepsFrom, Cond.instanceMethod yX1_stepsFrom, Cond.selects RX1 yX1_stepsFrom yX1_stepsFrom, Cond.code yX1_stepsFrom cX1_stepsFrom 2 (some .int), Cond.methodLink RX6 96 yX4_isUp, Cond.methodLink RX6 135 yX4_doBend, Cond.instanceMethod yX4_doBend, Cond.selects RX4 yX4_doBend yX4_doBend, Cond.code yX4_doBend cX4_doBend 2 none, Cond.methodLink RX6 138 yX4_doneBends]
def wsX6_follow : List Cond := .code yX6_follow cX6_follow 6 (some .int) :: ((wsX6_follow_r1 ++ (wsX6_follow_r2 ++ (wsX6_follow_r3 ++ (wsX6_follow_r4 ++ (wsX6_follow_r5 ++ (wsX6_follow_r6 ++ (wsX6_follow_r7 ++ wsX6_follow_r8))))))) ++ wsX60 ++ wsX40 ++ wsX10 ++ wsX20 ++ wsX30 ++ wsX00)
def wsX6_type : List Cond := .code yX6_type cX6_type 2 (some .int) :: ([.fieldLink RX6 33 "BendOrders" "text" "LBendOrders$Text;", .fieldLink RX6 160 "BendOrders$Text" "size" "I", .methodLink RX6 163 yX5_append, .instanceMethod yX5_append, .selects RX5 yX5_append yX5_append, .initialized RX5, .code yX5_append cX5_append 2 none, .fieldLink RX5 9 "BendOrders$Text" "size" "I", .fieldLink RX5 15 "BendOrders$Text" "signs" "[C"] ++ wsX60 ++ wsX50)
def wsX6_clearText : List Cond := .code yX6_clearText cX6_clearText 2 (some .int) :: ([.fieldLink RX6 33 "BendOrders" "text" "LBendOrders$Text;", .fieldLink RX6 160 "BendOrders$Text" "size" "I"] ++ wsX60 ++ wsX50)
def wsX6_undo_r1 : List Cond := [Cond.fieldLink RX6 26 "BendOrders" "history" "LBendOrders$History;", Cond.fieldLink RX6 167 "BendOrders$History" "size" "I", Cond.fieldLink RX6 10 "BendOrders" "now" "LBendOrders$State;", Cond.methodLink RX6 168 yX0_takeBack, Cond.instanceMethod yX0_takeBack, Cond.selects RX0 yX0_takeBack yX0_takeBack, Cond.initialized RX0, Cond.code yX0_takeBack cX0_takeBack 3 none, Cond.fieldLink RX0 9 "BendOrders$History" "size" "I", Cond.methodLink RX0 25 yX0_rowAt, Cond.instanceMethod yX0_rowAt, Cond.selects RX0 yX0_rowAt yX0_rowAt, Cond.code yX0_rowAt cX0_rowAt 2 (some (.object "BendOrders$State")), Cond.fieldLink RX0 17 "BendOrders$History" "states" "[LBendOrders$State;", Cond.methodLink RX0 29 yX4_copyFrom, Cond.instanceMethod yX4_copyFrom, Cond.selects RX4 yX4_copyFrom yX4_copyFrom, Cond.initialized RX4, Cond.code yX4_copyFrom cX4_copyFrom 2 none, Cond.fieldLink RX4 9 "BendOrders$State" "bends" "I", Cond.fieldLink RX4 15 "BendOrders$State" "ups" "I", Cond.fieldLink RX4 18 "BendOrders$State" "done" "I", Cond.fieldLink RX4 21 "BendOrders$State" "over" "Z", Cond.fieldLink RX4 25 "BendOrders$State" "bendings" "I"]
def wsX6_undo_r2 : List Cond := [Cond.fieldLink RX4 28 "BendOrders$State" "lengths" "[I", Cond.methodLink RX4 38 arraycopyName, Cond.native arraycopyName, Cond.static arraycopyName, Cond.initialized "java/lang/System", Cond.fieldLink RX4 35 "BendOrders$State" "settings" "[I"]
def wsX6_undo : List Cond := .code yX6_undo cX6_undo 1 (some .int) :: ((wsX6_undo_r1 ++ wsX6_undo_r2) ++ wsX60 ++ wsX00 ++ wsX40)
def wsX6_keep_r1 : List Cond := [Cond.fieldLink RX6 16 "BendOrders" "snapshot" "LBendOrders$State;", Cond.fieldLink RX6 10 "BendOrders" "now" "LBendOrders$State;", Cond.fieldLink RX6 19 "BendOrders" "kept" "Z", Cond.methodLink RX6 171 yX4_copyFrom, Cond.instanceMethod yX4_copyFrom, Cond.selects RX4 yX4_copyFrom yX4_copyFrom, Cond.initialized RX4, Cond.code yX4_copyFrom cX4_copyFrom 2 none, Cond.fieldLink RX4 9 "BendOrders$State" "bends" "I", Cond.fieldLink RX4 15 "BendOrders$State" "ups" "I", Cond.fieldLink RX4 18 "BendOrders$State" "done" "I", Cond.fieldLink RX4 21 "BendOrders$State" "over" "Z", Cond.fieldLink RX4 25 "BendOrders$State" "bendings" "I", Cond.fieldLink RX4 28 "BendOrders$State" "lengths" "[I", Cond.methodLink RX4 38 arraycopyName, Cond.native arraycopyName, Cond.static arraycopyName, Cond.initialized "java/lang/System", Cond.fieldLink RX4 35 "BendOrders$State" "settings" "[I", Cond.methodLink RX6 138 yX4_doneBends, Cond.instanceMethod yX4_doneBends, Cond.selects RX4 yX4_doneBends yX4_doneBends, Cond.code yX4_doneBends cX4_doneBends 1 (some .int), Cond.methodLink RX4 53 yJ6_bitCount_0f7a4]
def wsX6_keep_r2 : List Cond := [Cond.static yJ6_bitCount_0f7a4, Cond.initialized RJ6, Cond.code yJ6_bitCount_0f7a4 cJ6_bitCount_0f7a4 1 (some .int), Cond.constant RJ6 265 (1431655765), Cond.constant RJ6 266 (858993459), Cond.constant RJ6 267 (252645135)]
def wsX6_keep : List Cond := .code yX6_keep cX6_keep 1 (some .int) :: ((wsX6_keep_r1 ++ wsX6_keep_r2) ++ wsX60 ++ wsX40)
def wsX6_restore_r1 : List Cond := [Cond.fieldLink RX6 19 "BendOrders" "kept" "Z", Cond.fieldLink RX6 26 "BendOrders" "history" "LBendOrders$History;", Cond.fieldLink RX6 10 "BendOrders" "now" "LBendOrders$State;", Cond.fieldLink RX6 16 "BendOrders" "snapshot" "LBendOrders$State;", Cond.methodLink RX6 55 yX0_record, Cond.instanceMethod yX0_record, Cond.selects RX0 yX0_record yX0_record, Cond.initialized RX0, Cond.code yX0_record cX0_record 3 none, Cond.fieldLink RX0 9 "BendOrders$History" "size" "I", Cond.fieldLink RX0 17 "BendOrders$History" "states" "[LBendOrders$State;", Cond.methodLink RX0 22 yX0_dropOldest, Cond.instanceMethod yX0_dropOldest, Cond.selects RX0 yX0_dropOldest yX0_dropOldest, Cond.code yX0_dropOldest cX0_dropOldest 3 none, Cond.methodLink RX0 25 yX0_rowAt, Cond.instanceMethod yX0_rowAt, Cond.selects RX0 yX0_rowAt yX0_rowAt, Cond.code yX0_rowAt cX0_rowAt 2 (some (.object "BendOrders$State")), Cond.methodLink RX0 29 yX4_copyFrom, Cond.instanceMethod yX4_copyFrom, Cond.selects RX4 yX4_copyFrom yX4_copyFrom, Cond.initialized RX4, Cond.code yX4_copyFrom cX4_copyFrom 2 none]
def wsX6_restore_r2 : List Cond := [Cond.fieldLink RX4 9 "BendOrders$State" "bends" "I", Cond.fieldLink RX4 15 "BendOrders$State" "ups" "I", Cond.fieldLink RX4 18 "BendOrders$State" "done" "I", Cond.fieldLink RX4 21 "BendOrders$State" "over" "Z", Cond.fieldLink RX4 25 "BendOrders$State" "bendings" "I", Cond.fieldLink RX4 28 "BendOrders$State" "lengths" "[I", Cond.methodLink RX4 38 arraycopyName, Cond.native arraycopyName, Cond.static arraycopyName, Cond.initialized "java/lang/System", Cond.fieldLink RX4 35 "BendOrders$State" "settings" "[I", Cond.methodLink RX6 171 yX4_copyFrom, Cond.methodLink RX6 138 yX4_doneBends, Cond.instanceMethod yX4_doneBends, Cond.selects RX4 yX4_doneBends yX4_doneBends, Cond.code yX4_doneBends cX4_doneBends 1 (some .int), Cond.methodLink RX4 53 yJ6_bitCount_0f7a4, Cond.static yJ6_bitCount_0f7a4, Cond.initialized RJ6, Cond.code yJ6_bitCount_0f7a4 cJ6_bitCount_0f7a4 1 (some .int), Cond.constant RJ6 265 (1431655765), Cond.constant RJ6 266 (858993459), Cond.constant RJ6 267 (252645135)]
def wsX6_restore : List Cond := .code yX6_restore cX6_restore 1 (some .int) :: ((wsX6_restore_r1 ++ wsX6_restore_r2) ++ wsX60 ++ wsX00 ++ wsX40)
def wsX6_ofBend_r1 : List Cond := [Cond.fieldLink RX6 10 "BendOrders" "now" "LBendOrders$State;", Cond.fieldLink RX6 40 "BendOrders" "press" "LBendOrders$Press;", Cond.fieldLink RX6 86 "BendOrders$State" "done" "I", Cond.fieldLink RX6 124 "BendOrders$State" "over" "Z", Cond.methodLink RX6 93 yX4_hasBend, Cond.instanceMethod yX4_hasBend, Cond.selects RX4 yX4_hasBend yX4_hasBend, Cond.initialized RX4, Cond.code yX4_hasBend cX4_hasBend 2 (some .boolean), Cond.fieldLink RX4 9 "BendOrders$State" "bends" "I", Cond.methodLink RX6 96 yX4_isUp, Cond.instanceMethod yX4_isUp, Cond.selects RX4 yX4_isUp yX4_isUp, Cond.code yX4_isUp cX4_isUp 2 (some .boolean), Cond.fieldLink RX4 15 "BendOrders$State" "ups" "I", Cond.methodLink RX6 127 yX6_asNumber, Cond.static yX6_asNumber, Cond.initialized RX6, Cond.code yX6_asNumber cX6_asNumber 1 (some .int), Cond.methodLink RX6 141 yX4_isDone, Cond.instanceMethod yX4_isDone, Cond.selects RX4 yX4_isDone yX4_isDone, Cond.code yX4_isDone cX4_isDone 2 (some .boolean), Cond.fieldLink RX4 18 "BendOrders$State" "done" "I"]
def wsX6_ofBend_r2 : List Cond := [Cond.methodLink RX6 131 yX2_reason, Cond.instanceMethod yX2_reason, Cond.selects RX2 yX2_reason yX2_reason, Cond.initialized RX2, Cond.code yX2_reason cX2_reason 7 (some .int), Cond.fieldLink RX2 12 "BendOrders$Press" "shape" "LBendOrders$Shape;", Cond.methodLink RX2 18 yX4_isUp, Cond.methodLink RX2 24 yX4_clampedLength, Cond.instanceMethod yX4_clampedLength, Cond.selects RX4 yX4_clampedLength yX4_clampedLength, Cond.code yX4_clampedLength cX4_clampedLength 5 (some .int), Cond.methodLink RX4 63 yX4_lengthAt, Cond.instanceMethod yX4_lengthAt, Cond.selects RX4 yX4_lengthAt yX4_lengthAt, Cond.code yX4_lengthAt cX4_lengthAt 2 (some .int), Cond.fieldLink RX4 28 "BendOrders$State" "lengths" "[I", Cond.methodLink RX2 28 yX4_settingAt, Cond.instanceMethod yX4_settingAt, Cond.selects RX4 yX4_settingAt yX4_settingAt, Cond.code yX4_settingAt cX4_settingAt 2 (some .int), Cond.fieldLink RX4 35 "BendOrders$State" "settings" "[I", Cond.methodLink RX2 32 yX3_layFlat, Cond.instanceMethod yX3_layFlat, Cond.selects RX3 yX3_layFlat yX3_layFlat]
def wsX6_ofBend_r3 : List Cond := [Cond.initialized RX3, Cond.code yX3_layFlat cX3_layFlat 7 none, Cond.fieldLink RX3 30 "BendOrders$State" "bends" "I", Cond.methodLink RX3 36 Lib.Math.min.name, Cond.static Lib.Math.min.name, Cond.initialized "java/lang/Math", Cond.code Lib.Math.min.name Lib.Math.min.code 2 (some .int), Cond.fieldLink RX3 42 "BendOrders$Shape" "flanges" "I", Cond.methodLink RX3 45 yX3_startAtTool, Cond.instanceMethod yX3_startAtTool, Cond.selects RX3 yX3_startAtTool yX3_startAtTool, Cond.code yX3_startAtTool cX3_startAtTool 2 none, Cond.fieldLink RX3 65 "BendOrders$Shape" "x" "I", Cond.fieldLink RX3 68 "BendOrders$Shape" "y" "I", Cond.fieldLink RX3 71 "BendOrders$Shape" "stepX" "I", Cond.fieldLink RX3 74 "BendOrders$Shape" "stepY" "I", Cond.methodLink RX3 49 yX4_isUp, Cond.methodLink RX3 53 yX3_turnAt, Cond.instanceMethod yX3_turnAt, Cond.selects RX3 yX3_turnAt yX3_turnAt, Cond.code yX3_turnAt cX3_turnAt 5 none, Cond.methodLink RX3 57 yX4_lengthAt, Cond.methodLink RX3 61 yX3_draw, Cond.instanceMethod yX3_draw]
def wsX6_ofBend_r4 : List Cond := [Cond.selects RX3 yX3_draw yX3_draw, Cond.code yX3_draw cX3_draw 5 none, Cond.fieldLink RX3 9 "BendOrders$Shape" "left" "[I", Cond.fieldLink RX3 15 "BendOrders$Shape" "right" "[I", Cond.fieldLink RX3 18 "BendOrders$Shape" "bottom" "[I", Cond.fieldLink RX3 21 "BendOrders$Shape" "top" "[I", Cond.fieldLink RX3 24 "BendOrders$Shape" "farX" "[I", Cond.fieldLink RX3 27 "BendOrders$Shape" "farY" "[I", Cond.methodLink RX2 36 yX2_inUpper, Cond.instanceMethod yX2_inUpper, Cond.selects RX2 yX2_inUpper yX2_inUpper, Cond.code yX2_inUpper cX2_inUpper 6 (some .int), Cond.methodLink RX2 66 Lib.Math.min.name, Cond.methodLink RX2 71 yX3_flangesIn, Cond.instanceMethod yX3_flangesIn, Cond.selects RX3 yX3_flangesIn yX3_flangesIn, Cond.code yX3_flangesIn cX3_flangesIn 10 (some .int), Cond.methodLink RX2 40 yX2_inLower, Cond.instanceMethod yX2_inLower, Cond.selects RX2 yX2_inLower yX2_inLower, Cond.code yX2_inLower cX2_inLower 1 (some .int), Cond.methodLink RX2 44 yX3_swingUp, Cond.instanceMethod yX3_swingUp, Cond.selects RX3 yX3_swingUp yX3_swingUp]
def wsX6_ofBend_r5 : List Cond := [Cond.code yX3_swingUp cX3_swingUp 5 none, Cond.methodLink RX2 48 yX3_strikesItself, Cond.instanceMethod yX3_strikesItself, Cond.selects RX3 yX3_strikesItself yX3_strikesItself, Cond.code yX3_strikesItself cX3_strikesItself 3 (some .boolean), Cond.methodLink RX3 77 yX3_flangesIn, Cond.methodLink RX6 174 yX4_degrees, Cond.instanceMethod yX4_degrees, Cond.selects RX4 yX4_degrees yX4_degrees, Cond.code yX4_degrees cX4_degrees 3 (some .int), Cond.methodLink RX4 50 Lib.Math.max.name, Cond.static Lib.Math.max.name, Cond.code Lib.Math.max.name Lib.Math.max.code 2 (some .int), Cond.methodLink RX4 66 yX4_settingAt]
def wsX6_ofBend : List Cond := .code yX6_ofBend cX6_ofBend 3 (some .int) :: ((wsX6_ofBend_r1 ++ (wsX6_ofBend_r2 ++ (wsX6_ofBend_r3 ++ (wsX6_ofBend_r4 ++ wsX6_ofBend_r5)))) ++ wsX60 ++ wsX40 ++ wsX20 ++ wsX30)
def wsX6_lengthOf : List Cond := .code yX6_lengthOf cX6_lengthOf 2 (some .int) :: ([.fieldLink RX6 10 "BendOrders" "now" "LBendOrders$State;", .methodLink RX6 82 yX4_hasFlange, .instanceMethod yX4_hasFlange, .selects RX4 yX4_hasFlange yX4_hasFlange, .initialized RX4, .code yX4_hasFlange cX4_hasFlange 2 (some .boolean), .fieldLink RX4 9 "BendOrders$State" "bends" "I", .methodLink RX6 89 yX4_lengthAt, .instanceMethod yX4_lengthAt, .selects RX4 yX4_lengthAt yX4_lengthAt, .code yX4_lengthAt cX4_lengthAt 2 (some .int), .fieldLink RX4 28 "BendOrders$State" "lengths" "[I"] ++ wsX60 ++ wsX40)
def wsX6_end_r1 : List Cond := [Cond.fieldLink RX6 10 "BendOrders" "now" "LBendOrders$State;", Cond.fieldLink RX6 40 "BendOrders" "press" "LBendOrders$Press;", Cond.methodLink RX6 93 yX4_hasBend, Cond.instanceMethod yX4_hasBend, Cond.selects RX4 yX4_hasBend yX4_hasBend, Cond.initialized RX4, Cond.code yX4_hasBend cX4_hasBend 2 (some .boolean), Cond.fieldLink RX4 9 "BendOrders$State" "bends" "I", Cond.methodLink RX6 82 yX4_hasFlange, Cond.instanceMethod yX4_hasFlange, Cond.selects RX4 yX4_hasFlange yX4_hasFlange, Cond.code yX4_hasFlange cX4_hasFlange 2 (some .boolean), Cond.methodLink RX6 177 yX2_farEnd, Cond.instanceMethod yX2_farEnd, Cond.selects RX2 yX2_farEnd yX2_farEnd, Cond.initialized RX2, Cond.code yX2_farEnd cX2_farEnd 5 (some .int), Cond.fieldLink RX2 12 "BendOrders$Press" "shape" "LBendOrders$Shape;", Cond.fieldLink RX2 52 "BendOrders$State" "done" "I", Cond.fieldLink RX2 56 "BendOrders$State" "over" "Z", Cond.methodLink RX2 32 yX3_layFlat, Cond.instanceMethod yX3_layFlat, Cond.selects RX3 yX3_layFlat yX3_layFlat, Cond.initialized RX3]
def wsX6_end_r2 : List Cond := [Cond.code yX3_layFlat cX3_layFlat 7 none, Cond.fieldLink RX3 30 "BendOrders$State" "bends" "I", Cond.methodLink RX3 36 Lib.Math.min.name, Cond.static Lib.Math.min.name, Cond.initialized "java/lang/Math", Cond.code Lib.Math.min.name Lib.Math.min.code 2 (some .int), Cond.fieldLink RX3 42 "BendOrders$Shape" "flanges" "I", Cond.methodLink RX3 45 yX3_startAtTool, Cond.instanceMethod yX3_startAtTool, Cond.selects RX3 yX3_startAtTool yX3_startAtTool, Cond.code yX3_startAtTool cX3_startAtTool 2 none, Cond.fieldLink RX3 65 "BendOrders$Shape" "x" "I", Cond.fieldLink RX3 68 "BendOrders$Shape" "y" "I", Cond.fieldLink RX3 71 "BendOrders$Shape" "stepX" "I", Cond.fieldLink RX3 74 "BendOrders$Shape" "stepY" "I", Cond.methodLink RX3 49 yX4_isUp, Cond.instanceMethod yX4_isUp, Cond.selects RX4 yX4_isUp yX4_isUp, Cond.code yX4_isUp cX4_isUp 2 (some .boolean), Cond.fieldLink RX4 15 "BendOrders$State" "ups" "I", Cond.methodLink RX3 53 yX3_turnAt, Cond.instanceMethod yX3_turnAt, Cond.selects RX3 yX3_turnAt yX3_turnAt, Cond.code yX3_turnAt cX3_turnAt 5 none]
def wsX6_end_r3 : List Cond := [Cond.methodLink RX3 57 yX4_lengthAt, Cond.instanceMethod yX4_lengthAt, Cond.selects RX4 yX4_lengthAt yX4_lengthAt, Cond.code yX4_lengthAt cX4_lengthAt 2 (some .int), Cond.fieldLink RX4 28 "BendOrders$State" "lengths" "[I", Cond.methodLink RX3 61 yX3_draw, Cond.instanceMethod yX3_draw, Cond.selects RX3 yX3_draw yX3_draw, Cond.code yX3_draw cX3_draw 5 none, Cond.fieldLink RX3 9 "BendOrders$Shape" "left" "[I", Cond.fieldLink RX3 15 "BendOrders$Shape" "right" "[I", Cond.fieldLink RX3 18 "BendOrders$Shape" "bottom" "[I", Cond.fieldLink RX3 21 "BendOrders$Shape" "top" "[I", Cond.fieldLink RX3 24 "BendOrders$Shape" "farX" "[I", Cond.fieldLink RX3 27 "BendOrders$Shape" "farY" "[I", Cond.methodLink RX2 60 yX3_farEndY, Cond.instanceMethod yX3_farEndY, Cond.selects RX3 yX3_farEndY yX3_farEndY, Cond.code yX3_farEndY cX3_farEndY 2 (some .int), Cond.methodLink RX2 63 yX3_farEndX, Cond.instanceMethod yX3_farEndX, Cond.selects RX3 yX3_farEndX yX3_farEndX, Cond.code yX3_farEndX cX3_farEndX 2 (some .int)]
def wsX6_end : List Cond := .code yX6_end cX6_end 4 (some .int) :: ((wsX6_end_r1 ++ (wsX6_end_r2 ++ wsX6_end_r3)) ++ wsX60 ++ wsX40 ++ wsX20 ++ wsX30)
def wsX6_strikers_r1 : List Cond := [Cond.fieldLink RX6 10 "BendOrders" "now" "LBendOrders$State;", Cond.fieldLink RX6 40 "BendOrders" "press" "LBendOrders$Press;", Cond.fieldLink RX6 86 "BendOrders$State" "done" "I", Cond.fieldLink RX6 124 "BendOrders$State" "over" "Z", Cond.methodLink RX6 93 yX4_hasBend, Cond.instanceMethod yX4_hasBend, Cond.selects RX4 yX4_hasBend yX4_hasBend, Cond.initialized RX4, Cond.code yX4_hasBend cX4_hasBend 2 (some .boolean), Cond.fieldLink RX4 9 "BendOrders$State" "bends" "I", Cond.methodLink RX6 180 yX2_upperStrikers, Cond.instanceMethod yX2_upperStrikers, Cond.selects RX2 yX2_upperStrikers yX2_upperStrikers, Cond.initialized RX2, Cond.code yX2_upperStrikers cX2_upperStrikers 6 (some .int), Cond.fieldLink RX2 12 "BendOrders$Press" "shape" "LBendOrders$Shape;", Cond.methodLink RX2 32 yX3_layFlat, Cond.instanceMethod yX3_layFlat, Cond.selects RX3 yX3_layFlat yX3_layFlat, Cond.initialized RX3, Cond.code yX3_layFlat cX3_layFlat 7 none, Cond.fieldLink RX3 30 "BendOrders$State" "bends" "I", Cond.methodLink RX3 36 Lib.Math.min.name, Cond.static Lib.Math.min.name]
def wsX6_strikers_r2 : List Cond := [Cond.initialized "java/lang/Math", Cond.code Lib.Math.min.name Lib.Math.min.code 2 (some .int), Cond.fieldLink RX3 42 "BendOrders$Shape" "flanges" "I", Cond.methodLink RX3 45 yX3_startAtTool, Cond.instanceMethod yX3_startAtTool, Cond.selects RX3 yX3_startAtTool yX3_startAtTool, Cond.code yX3_startAtTool cX3_startAtTool 2 none, Cond.fieldLink RX3 65 "BendOrders$Shape" "x" "I", Cond.fieldLink RX3 68 "BendOrders$Shape" "y" "I", Cond.fieldLink RX3 71 "BendOrders$Shape" "stepX" "I", Cond.fieldLink RX3 74 "BendOrders$Shape" "stepY" "I", Cond.methodLink RX3 49 yX4_isUp, Cond.instanceMethod yX4_isUp, Cond.selects RX4 yX4_isUp yX4_isUp, Cond.code yX4_isUp cX4_isUp 2 (some .boolean), Cond.fieldLink RX4 15 "BendOrders$State" "ups" "I", Cond.methodLink RX3 53 yX3_turnAt, Cond.instanceMethod yX3_turnAt, Cond.selects RX3 yX3_turnAt yX3_turnAt, Cond.code yX3_turnAt cX3_turnAt 5 none, Cond.methodLink RX3 57 yX4_lengthAt, Cond.instanceMethod yX4_lengthAt, Cond.selects RX4 yX4_lengthAt yX4_lengthAt, Cond.code yX4_lengthAt cX4_lengthAt 2 (some .int)]
def wsX6_strikers_r3 : List Cond := [Cond.fieldLink RX4 28 "BendOrders$State" "lengths" "[I", Cond.methodLink RX3 61 yX3_draw, Cond.instanceMethod yX3_draw, Cond.selects RX3 yX3_draw yX3_draw, Cond.code yX3_draw cX3_draw 5 none, Cond.fieldLink RX3 9 "BendOrders$Shape" "left" "[I", Cond.fieldLink RX3 15 "BendOrders$Shape" "right" "[I", Cond.fieldLink RX3 18 "BendOrders$Shape" "bottom" "[I", Cond.fieldLink RX3 21 "BendOrders$Shape" "top" "[I", Cond.fieldLink RX3 24 "BendOrders$Shape" "farX" "[I", Cond.fieldLink RX3 27 "BendOrders$Shape" "farY" "[I", Cond.methodLink RX2 36 yX2_inUpper, Cond.instanceMethod yX2_inUpper, Cond.selects RX2 yX2_inUpper yX2_inUpper, Cond.code yX2_inUpper cX2_inUpper 6 (some .int), Cond.methodLink RX2 66 Lib.Math.min.name, Cond.methodLink RX2 28 yX4_settingAt, Cond.instanceMethod yX4_settingAt, Cond.selects RX4 yX4_settingAt yX4_settingAt, Cond.code yX4_settingAt cX4_settingAt 2 (some .int), Cond.fieldLink RX4 35 "BendOrders$State" "settings" "[I", Cond.methodLink RX2 71 yX3_flangesIn, Cond.instanceMethod yX3_flangesIn, Cond.selects RX3 yX3_flangesIn yX3_flangesIn]
def wsX6_strikers_r4 : List Cond := [Cond.code yX3_flangesIn cX3_flangesIn 10 (some .int), Cond.methodLink RX2 44 yX3_swingUp, Cond.instanceMethod yX3_swingUp, Cond.selects RX3 yX3_swingUp yX3_swingUp, Cond.code yX3_swingUp cX3_swingUp 5 none]
def wsX6_strikers : List Cond := .code yX6_strikers cX6_strikers 2 (some .int) :: ((wsX6_strikers_r1 ++ (wsX6_strikers_r2 ++ (wsX6_strikers_r3 ++ wsX6_strikers_r4))) ++ wsX60 ++ wsX40 ++ wsX20 ++ wsX30)
def wsX6_order_r1 : List Cond := [Cond.fieldLink RX6 10 "BendOrders" "now" "LBendOrders$State;", Cond.fieldLink RX6 86 "BendOrders$State" "done" "I", Cond.fieldLink RX6 47 "BendOrders" "plan" "LBendOrders$Plan;", Cond.methodLink RX6 144 yX6_hasOrder, Cond.instanceMethod yX6_hasOrder, Cond.selects RX6 yX6_hasOrder yX6_hasOrder, Cond.initialized RX6, Cond.code yX6_hasOrder cX6_hasOrder 1 (some .boolean), Cond.methodLink RX6 183 yX1_prepare, Cond.instanceMethod yX1_prepare, Cond.selects RX1 yX1_prepare yX1_prepare, Cond.initialized RX1, Cond.code yX1_prepare cX1_prepare 4 none, Cond.fieldLink RX1 25 "BendOrders$Plan" "made" "Z", Cond.fieldLink RX1 21 "BendOrders$Plan" "planned" "LBendOrders$State;", Cond.fieldLink RX1 29 "BendOrders$Plan" "ways" "[I", Cond.methodLink RX1 52 Lib.Math.min.name, Cond.static Lib.Math.min.name, Cond.initialized "java/lang/Math", Cond.code Lib.Math.min.name Lib.Math.min.code 2 (some .int), Cond.methodLink RX1 40 yX4_bendsLike, Cond.instanceMethod yX4_bendsLike, Cond.selects RX4 yX4_bendsLike yX4_bendsLike, Cond.initialized RX4]
def wsX6_order_r2 : List Cond := [Cond.code yX4_bendsLike cX4_bendsLike 3 (some .boolean), Cond.fieldLink RX4 9 "BendOrders$State" "bends" "I", Cond.fieldLink RX4 15 "BendOrders$State" "ups" "I", Cond.methodLink RX4 63 yX4_lengthAt, Cond.instanceMethod yX4_lengthAt, Cond.selects RX4 yX4_lengthAt yX4_lengthAt, Cond.code yX4_lengthAt cX4_lengthAt 2 (some .int), Cond.fieldLink RX4 28 "BendOrders$State" "lengths" "[I", Cond.methodLink RX4 66 yX4_settingAt, Cond.instanceMethod yX4_settingAt, Cond.selects RX4 yX4_settingAt yX4_settingAt, Cond.code yX4_settingAt cX4_settingAt 2 (some .int), Cond.fieldLink RX4 35 "BendOrders$State" "settings" "[I", Cond.methodLink RX1 44 yX4_copyFrom, Cond.instanceMethod yX4_copyFrom, Cond.selects RX4 yX4_copyFrom yX4_copyFrom, Cond.code yX4_copyFrom cX4_copyFrom 2 none, Cond.fieldLink RX4 18 "BendOrders$State" "done" "I", Cond.fieldLink RX4 21 "BendOrders$State" "over" "Z", Cond.fieldLink RX4 25 "BendOrders$State" "bendings" "I", Cond.methodLink RX4 38 arraycopyName, Cond.native arraycopyName, Cond.static arraycopyName, Cond.initialized "java/lang/System"]
def wsX6_order_r3 : List Cond := [Cond.methodLink RX1 48 yX4_allBends, Cond.instanceMethod yX4_allBends, Cond.selects RX4 yX4_allBends yX4_allBends, Cond.code yX4_allBends cX4_allBends 1 (some .int), Cond.methodLink RX1 58 yX1_fillRow, Cond.instanceMethod yX1_fillRow, Cond.selects RX1 yX1_fillRow yX1_fillRow, Cond.code yX1_fillRow cX1_fillRow 8 none, Cond.fieldLink RX1 62 "BendOrders$State" "bends" "I", Cond.fieldLink RX1 12 "BendOrders$Plan" "press" "LBendOrders$Press;", Cond.fieldLink RX1 33 "BendOrders$Plan" "steps" "[I", Cond.methodLink RX1 66 yX1_waysFrom, Cond.instanceMethod yX1_waysFrom, Cond.selects RX1 yX1_waysFrom yX1_waysFrom, Cond.code yX1_waysFrom cX1_waysFrom 2 (some .int), Cond.methodLink RX1 70 yX4_isUp, Cond.instanceMethod yX4_isUp, Cond.selects RX4 yX4_isUp yX4_isUp, Cond.code yX4_isUp cX4_isUp 2 (some .boolean), Cond.methodLink RX1 74 yX2_reason, Cond.instanceMethod yX2_reason, Cond.selects RX2 yX2_reason yX2_reason, Cond.initialized RX2, Cond.code yX2_reason cX2_reason 7 (some .int)]
def wsX6_order_r4 : List Cond := [Cond.fieldLink RX2 12 "BendOrders$Press" "shape" "LBendOrders$Shape;", Cond.methodLink RX2 18 yX4_isUp, Cond.methodLink RX2 24 yX4_clampedLength, Cond.instanceMethod yX4_clampedLength, Cond.selects RX4 yX4_clampedLength yX4_clampedLength, Cond.code yX4_clampedLength cX4_clampedLength 5 (some .int), Cond.methodLink RX2 28 yX4_settingAt, Cond.methodLink RX2 32 yX3_layFlat, Cond.instanceMethod yX3_layFlat, Cond.selects RX3 yX3_layFlat yX3_layFlat, Cond.initialized RX3, Cond.code yX3_layFlat cX3_layFlat 7 none, Cond.fieldLink RX3 30 "BendOrders$State" "bends" "I", Cond.methodLink RX3 36 Lib.Math.min.name, Cond.fieldLink RX3 42 "BendOrders$Shape" "flanges" "I", Cond.methodLink RX3 45 yX3_startAtTool, Cond.instanceMethod yX3_startAtTool, Cond.selects RX3 yX3_startAtTool yX3_startAtTool, Cond.code yX3_startAtTool cX3_startAtTool 2 none, Cond.fieldLink RX3 65 "BendOrders$Shape" "x" "I", Cond.fieldLink RX3 68 "BendOrders$Shape" "y" "I", Cond.fieldLink RX3 71 "BendOrders$Shape" "stepX" "I", Cond.fieldLink RX3 74 "BendOrders$Shape" "stepY" "I", Cond.methodLink RX3 49 yX4_isUp]
def wsX6_order_r5 : List Cond := [Cond.methodLink RX3 53 yX3_turnAt, Cond.instanceMethod yX3_turnAt, Cond.selects RX3 yX3_turnAt yX3_turnAt, Cond.code yX3_turnAt cX3_turnAt 5 none, Cond.methodLink RX3 57 yX4_lengthAt, Cond.methodLink RX3 61 yX3_draw, Cond.instanceMethod yX3_draw, Cond.selects RX3 yX3_draw yX3_draw, Cond.code yX3_draw cX3_draw 5 none, Cond.fieldLink RX3 9 "BendOrders$Shape" "left" "[I", Cond.fieldLink RX3 15 "BendOrders$Shape" "right" "[I", Cond.fieldLink RX3 18 "BendOrders$Shape" "bottom" "[I", Cond.fieldLink RX3 21 "BendOrders$Shape" "top" "[I", Cond.fieldLink RX3 24 "BendOrders$Shape" "farX" "[I", Cond.fieldLink RX3 27 "BendOrders$Shape" "farY" "[I", Cond.methodLink RX2 36 yX2_inUpper, Cond.instanceMethod yX2_inUpper, Cond.selects RX2 yX2_inUpper yX2_inUpper, Cond.code yX2_inUpper cX2_inUpper 6 (some .int), Cond.methodLink RX2 66 Lib.Math.min.name, Cond.methodLink RX2 71 yX3_flangesIn, Cond.instanceMethod yX3_flangesIn, Cond.selects RX3 yX3_flangesIn yX3_flangesIn, Cond.code yX3_flangesIn cX3_flangesIn 10 (some .int)]
def wsX6_order_r6 : List Cond := [Cond.methodLink RX2 40 yX2_inLower, Cond.instanceMethod yX2_inLower, Cond.selects RX2 yX2_inLower yX2_inLower, Cond.code yX2_inLower cX2_inLower 1 (some .int), Cond.methodLink RX2 44 yX3_swingUp, Cond.instanceMethod yX3_swingUp, Cond.selects RX3 yX3_swingUp yX3_swingUp, Cond.code yX3_swingUp cX3_swingUp 5 none, Cond.methodLink RX2 48 yX3_strikesItself, Cond.instanceMethod yX3_strikesItself, Cond.selects RX3 yX3_strikesItself yX3_strikesItself, Cond.code yX3_strikesItself cX3_strikesItself 3 (some .boolean), Cond.methodLink RX3 77 yX3_flangesIn, Cond.methodLink RX6 186 yX1_waysFrom, Cond.methodLink RX6 148 yX4_openBends, Cond.instanceMethod yX4_openBends, Cond.selects RX4 yX4_openBends yX4_openBends, Cond.code yX4_openBends cX4_openBends 1 (some .int), Cond.methodLink RX4 59 yX4_doneBends, Cond.instanceMethod yX4_doneBends, Cond.selects RX4 yX4_doneBends yX4_doneBends, Cond.code yX4_doneBends cX4_doneBends 1 (some .int), Cond.methodLink RX4 53 yJ6_bitCount_0f7a4, Cond.static yJ6_bitCount_0f7a4]
def wsX6_order_r7 : List Cond := [Cond.initialized RJ6, Cond.code yJ6_bitCount_0f7a4 cJ6_bitCount_0f7a4 1 (some .int), Cond.constant RJ6 265 (1431655765), Cond.constant RJ6 266 (858993459), Cond.constant RJ6 267 (252645135), Cond.methodLink RX6 157 yX1_firstStep, Cond.instanceMethod yX1_firstStep, Cond.selects RX1 yX1_firstStep yX1_firstStep, Cond.code yX1_firstStep cX1_firstStep 4 (some .int), Cond.methodLink RX1 78 yX1_stepsFrom, Cond.instanceMethod yX1_stepsFrom, Cond.selects RX1 yX1_stepsFrom yX1_stepsFrom, Cond.code yX1_stepsFrom cX1_stepsFrom 2 (some .int)]
def wsX6_order : List Cond := .code yX6_order cX6_order 4 (some .int) :: ((wsX6_order_r1 ++ (wsX6_order_r2 ++ (wsX6_order_r3 ++ (wsX6_order_r4 ++ (wsX6_order_r5 ++ (wsX6_order_r6 ++ wsX6_order_r7)))))) ++ wsX60 ++ wsX40 ++ wsX10 ++ wsX20 ++ wsX30)
def wsX6_orders_r1 : List Cond := [Cond.fieldLink RX6 47 "BendOrders" "plan" "LBendOrders$Plan;", Cond.fieldLink RX6 10 "BendOrders" "now" "LBendOrders$State;", Cond.fieldLink RX6 86 "BendOrders$State" "done" "I", Cond.methodLink RX6 183 yX1_prepare, Cond.instanceMethod yX1_prepare, Cond.selects RX1 yX1_prepare yX1_prepare, Cond.initialized RX1, Cond.code yX1_prepare cX1_prepare 4 none, Cond.fieldLink RX1 25 "BendOrders$Plan" "made" "Z", Cond.fieldLink RX1 21 "BendOrders$Plan" "planned" "LBendOrders$State;", Cond.fieldLink RX1 29 "BendOrders$Plan" "ways" "[I", Cond.methodLink RX1 52 Lib.Math.min.name, Cond.static Lib.Math.min.name, Cond.initialized "java/lang/Math", Cond.code Lib.Math.min.name Lib.Math.min.code 2 (some .int), Cond.methodLink RX1 40 yX4_bendsLike, Cond.instanceMethod yX4_bendsLike, Cond.selects RX4 yX4_bendsLike yX4_bendsLike, Cond.initialized RX4, Cond.code yX4_bendsLike cX4_bendsLike 3 (some .boolean), Cond.fieldLink RX4 9 "BendOrders$State" "bends" "I", Cond.fieldLink RX4 15 "BendOrders$State" "ups" "I", Cond.methodLink RX4 63 yX4_lengthAt, Cond.instanceMethod yX4_lengthAt]
def wsX6_orders_r2 : List Cond := [Cond.selects RX4 yX4_lengthAt yX4_lengthAt, Cond.code yX4_lengthAt cX4_lengthAt 2 (some .int), Cond.fieldLink RX4 28 "BendOrders$State" "lengths" "[I", Cond.methodLink RX4 66 yX4_settingAt, Cond.instanceMethod yX4_settingAt, Cond.selects RX4 yX4_settingAt yX4_settingAt, Cond.code yX4_settingAt cX4_settingAt 2 (some .int), Cond.fieldLink RX4 35 "BendOrders$State" "settings" "[I", Cond.methodLink RX1 44 yX4_copyFrom, Cond.instanceMethod yX4_copyFrom, Cond.selects RX4 yX4_copyFrom yX4_copyFrom, Cond.code yX4_copyFrom cX4_copyFrom 2 none, Cond.fieldLink RX4 18 "BendOrders$State" "done" "I", Cond.fieldLink RX4 21 "BendOrders$State" "over" "Z", Cond.fieldLink RX4 25 "BendOrders$State" "bendings" "I", Cond.methodLink RX4 38 arraycopyName, Cond.native arraycopyName, Cond.static arraycopyName, Cond.initialized "java/lang/System", Cond.methodLink RX1 48 yX4_allBends, Cond.instanceMethod yX4_allBends, Cond.selects RX4 yX4_allBends yX4_allBends, Cond.code yX4_allBends cX4_allBends 1 (some .int), Cond.methodLink RX1 58 yX1_fillRow]
def wsX6_orders_r3 : List Cond := [Cond.instanceMethod yX1_fillRow, Cond.selects RX1 yX1_fillRow yX1_fillRow, Cond.code yX1_fillRow cX1_fillRow 8 none, Cond.fieldLink RX1 62 "BendOrders$State" "bends" "I", Cond.fieldLink RX1 12 "BendOrders$Plan" "press" "LBendOrders$Press;", Cond.fieldLink RX1 33 "BendOrders$Plan" "steps" "[I", Cond.methodLink RX1 66 yX1_waysFrom, Cond.instanceMethod yX1_waysFrom, Cond.selects RX1 yX1_waysFrom yX1_waysFrom, Cond.code yX1_waysFrom cX1_waysFrom 2 (some .int), Cond.methodLink RX1 70 yX4_isUp, Cond.instanceMethod yX4_isUp, Cond.selects RX4 yX4_isUp yX4_isUp, Cond.code yX4_isUp cX4_isUp 2 (some .boolean), Cond.methodLink RX1 74 yX2_reason, Cond.instanceMethod yX2_reason, Cond.selects RX2 yX2_reason yX2_reason, Cond.initialized RX2, Cond.code yX2_reason cX2_reason 7 (some .int), Cond.fieldLink RX2 12 "BendOrders$Press" "shape" "LBendOrders$Shape;", Cond.methodLink RX2 18 yX4_isUp, Cond.methodLink RX2 24 yX4_clampedLength, Cond.instanceMethod yX4_clampedLength, Cond.selects RX4 yX4_clampedLength yX4_clampedLength]
def wsX6_orders_r4 : List Cond := [Cond.code yX4_clampedLength cX4_clampedLength 5 (some .int), Cond.methodLink RX2 28 yX4_settingAt, Cond.methodLink RX2 32 yX3_layFlat, Cond.instanceMethod yX3_layFlat, Cond.selects RX3 yX3_layFlat yX3_layFlat, Cond.initialized RX3, Cond.code yX3_layFlat cX3_layFlat 7 none, Cond.fieldLink RX3 30 "BendOrders$State" "bends" "I", Cond.methodLink RX3 36 Lib.Math.min.name, Cond.fieldLink RX3 42 "BendOrders$Shape" "flanges" "I", Cond.methodLink RX3 45 yX3_startAtTool, Cond.instanceMethod yX3_startAtTool, Cond.selects RX3 yX3_startAtTool yX3_startAtTool, Cond.code yX3_startAtTool cX3_startAtTool 2 none, Cond.fieldLink RX3 65 "BendOrders$Shape" "x" "I", Cond.fieldLink RX3 68 "BendOrders$Shape" "y" "I", Cond.fieldLink RX3 71 "BendOrders$Shape" "stepX" "I", Cond.fieldLink RX3 74 "BendOrders$Shape" "stepY" "I", Cond.methodLink RX3 49 yX4_isUp, Cond.methodLink RX3 53 yX3_turnAt, Cond.instanceMethod yX3_turnAt, Cond.selects RX3 yX3_turnAt yX3_turnAt, Cond.code yX3_turnAt cX3_turnAt 5 none, Cond.methodLink RX3 57 yX4_lengthAt]
def wsX6_orders_r5 : List Cond := [Cond.methodLink RX3 61 yX3_draw, Cond.instanceMethod yX3_draw, Cond.selects RX3 yX3_draw yX3_draw, Cond.code yX3_draw cX3_draw 5 none, Cond.fieldLink RX3 9 "BendOrders$Shape" "left" "[I", Cond.fieldLink RX3 15 "BendOrders$Shape" "right" "[I", Cond.fieldLink RX3 18 "BendOrders$Shape" "bottom" "[I", Cond.fieldLink RX3 21 "BendOrders$Shape" "top" "[I", Cond.fieldLink RX3 24 "BendOrders$Shape" "farX" "[I", Cond.fieldLink RX3 27 "BendOrders$Shape" "farY" "[I", Cond.methodLink RX2 36 yX2_inUpper, Cond.instanceMethod yX2_inUpper, Cond.selects RX2 yX2_inUpper yX2_inUpper, Cond.code yX2_inUpper cX2_inUpper 6 (some .int), Cond.methodLink RX2 66 Lib.Math.min.name, Cond.methodLink RX2 71 yX3_flangesIn, Cond.instanceMethod yX3_flangesIn, Cond.selects RX3 yX3_flangesIn yX3_flangesIn, Cond.code yX3_flangesIn cX3_flangesIn 10 (some .int), Cond.methodLink RX2 40 yX2_inLower, Cond.instanceMethod yX2_inLower, Cond.selects RX2 yX2_inLower yX2_inLower, Cond.code yX2_inLower cX2_inLower 1 (some .int), Cond.methodLink RX2 44 yX3_swingUp]
def wsX6_orders_r6 : List Cond := [Cond.instanceMethod yX3_swingUp, Cond.selects RX3 yX3_swingUp yX3_swingUp, Cond.code yX3_swingUp cX3_swingUp 5 none, Cond.methodLink RX2 48 yX3_strikesItself, Cond.instanceMethod yX3_strikesItself, Cond.selects RX3 yX3_strikesItself yX3_strikesItself, Cond.code yX3_strikesItself cX3_strikesItself 3 (some .boolean), Cond.methodLink RX3 77 yX3_flangesIn, Cond.methodLink RX6 186 yX1_waysFrom]
def wsX6_orders : List Cond := .code yX6_orders cX6_orders 1 (some .int) :: ((wsX6_orders_r1 ++ (wsX6_orders_r2 ++ (wsX6_orders_r3 ++ (wsX6_orders_r4 ++ (wsX6_orders_r5 ++ wsX6_orders_r6))))) ++ wsX60 ++ wsX40 ++ wsX10 ++ wsX20 ++ wsX30)
def wsX6_isOpen : List Cond := .code yX6_isOpen cX6_isOpen 2 (some .boolean) :: ([.fieldLink RX6 10 "BendOrders" "now" "LBendOrders$State;", .methodLink RX6 93 yX4_hasBend, .instanceMethod yX4_hasBend, .selects RX4 yX4_hasBend yX4_hasBend, .initialized RX4, .code yX4_hasBend cX4_hasBend 2 (some .boolean), .fieldLink RX4 9 "BendOrders$State" "bends" "I", .methodLink RX6 141 yX4_isDone, .instanceMethod yX4_isDone, .selects RX4 yX4_isDone yX4_isDone, .code yX4_isDone cX4_isDone 2 (some .boolean), .fieldLink RX4 18 "BendOrders$State" "done" "I"] ++ wsX60 ++ wsX40)
def wsX6_mustWait_r1 : List Cond := [Cond.fieldLink RX6 47 "BendOrders" "plan" "LBendOrders$Plan;", Cond.fieldLink RX6 10 "BendOrders" "now" "LBendOrders$State;", Cond.fieldLink RX6 86 "BendOrders$State" "done" "I", Cond.methodLink RX6 189 yX6_isOpen, Cond.instanceMethod yX6_isOpen, Cond.selects RX6 yX6_isOpen yX6_isOpen, Cond.initialized RX6, Cond.code yX6_isOpen cX6_isOpen 2 (some .boolean), Cond.methodLink RX6 93 yX4_hasBend, Cond.instanceMethod yX4_hasBend, Cond.selects RX4 yX4_hasBend yX4_hasBend, Cond.initialized RX4, Cond.code yX4_hasBend cX4_hasBend 2 (some .boolean), Cond.fieldLink RX4 9 "BendOrders$State" "bends" "I", Cond.methodLink RX6 141 yX4_isDone, Cond.instanceMethod yX4_isDone, Cond.selects RX4 yX4_isDone yX4_isDone, Cond.code yX4_isDone cX4_isDone 2 (some .boolean), Cond.fieldLink RX4 18 "BendOrders$State" "done" "I", Cond.methodLink RX6 144 yX6_hasOrder, Cond.instanceMethod yX6_hasOrder, Cond.selects RX6 yX6_hasOrder yX6_hasOrder, Cond.code yX6_hasOrder cX6_hasOrder 1 (some .boolean), Cond.methodLink RX6 183 yX1_prepare]
def wsX6_mustWait_r2 : List Cond := [Cond.instanceMethod yX1_prepare, Cond.selects RX1 yX1_prepare yX1_prepare, Cond.initialized RX1, Cond.code yX1_prepare cX1_prepare 4 none, Cond.fieldLink RX1 25 "BendOrders$Plan" "made" "Z", Cond.fieldLink RX1 21 "BendOrders$Plan" "planned" "LBendOrders$State;", Cond.fieldLink RX1 29 "BendOrders$Plan" "ways" "[I", Cond.methodLink RX1 52 Lib.Math.min.name, Cond.static Lib.Math.min.name, Cond.initialized "java/lang/Math", Cond.code Lib.Math.min.name Lib.Math.min.code 2 (some .int), Cond.methodLink RX1 40 yX4_bendsLike, Cond.instanceMethod yX4_bendsLike, Cond.selects RX4 yX4_bendsLike yX4_bendsLike, Cond.code yX4_bendsLike cX4_bendsLike 3 (some .boolean), Cond.fieldLink RX4 15 "BendOrders$State" "ups" "I", Cond.methodLink RX4 63 yX4_lengthAt, Cond.instanceMethod yX4_lengthAt, Cond.selects RX4 yX4_lengthAt yX4_lengthAt, Cond.code yX4_lengthAt cX4_lengthAt 2 (some .int), Cond.fieldLink RX4 28 "BendOrders$State" "lengths" "[I", Cond.methodLink RX4 66 yX4_settingAt, Cond.instanceMethod yX4_settingAt, Cond.selects RX4 yX4_settingAt yX4_settingAt]
def wsX6_mustWait_r3 : List Cond := [Cond.code yX4_settingAt cX4_settingAt 2 (some .int), Cond.fieldLink RX4 35 "BendOrders$State" "settings" "[I", Cond.methodLink RX1 44 yX4_copyFrom, Cond.instanceMethod yX4_copyFrom, Cond.selects RX4 yX4_copyFrom yX4_copyFrom, Cond.code yX4_copyFrom cX4_copyFrom 2 none, Cond.fieldLink RX4 21 "BendOrders$State" "over" "Z", Cond.fieldLink RX4 25 "BendOrders$State" "bendings" "I", Cond.methodLink RX4 38 arraycopyName, Cond.native arraycopyName, Cond.static arraycopyName, Cond.initialized "java/lang/System", Cond.methodLink RX1 48 yX4_allBends, Cond.instanceMethod yX4_allBends, Cond.selects RX4 yX4_allBends yX4_allBends, Cond.code yX4_allBends cX4_allBends 1 (some .int), Cond.methodLink RX1 58 yX1_fillRow, Cond.instanceMethod yX1_fillRow, Cond.selects RX1 yX1_fillRow yX1_fillRow, Cond.code yX1_fillRow cX1_fillRow 8 none, Cond.fieldLink RX1 62 "BendOrders$State" "bends" "I", Cond.fieldLink RX1 12 "BendOrders$Plan" "press" "LBendOrders$Press;", Cond.fieldLink RX1 33 "BendOrders$Plan" "steps" "[I", Cond.methodLink RX1 66 yX1_waysFrom]
def wsX6_mustWait_r4 : List Cond := [Cond.instanceMethod yX1_waysFrom, Cond.selects RX1 yX1_waysFrom yX1_waysFrom, Cond.code yX1_waysFrom cX1_waysFrom 2 (some .int), Cond.methodLink RX1 70 yX4_isUp, Cond.instanceMethod yX4_isUp, Cond.selects RX4 yX4_isUp yX4_isUp, Cond.code yX4_isUp cX4_isUp 2 (some .boolean), Cond.methodLink RX1 74 yX2_reason, Cond.instanceMethod yX2_reason, Cond.selects RX2 yX2_reason yX2_reason, Cond.initialized RX2, Cond.code yX2_reason cX2_reason 7 (some .int), Cond.fieldLink RX2 12 "BendOrders$Press" "shape" "LBendOrders$Shape;", Cond.methodLink RX2 18 yX4_isUp, Cond.methodLink RX2 24 yX4_clampedLength, Cond.instanceMethod yX4_clampedLength, Cond.selects RX4 yX4_clampedLength yX4_clampedLength, Cond.code yX4_clampedLength cX4_clampedLength 5 (some .int), Cond.methodLink RX2 28 yX4_settingAt, Cond.methodLink RX2 32 yX3_layFlat, Cond.instanceMethod yX3_layFlat, Cond.selects RX3 yX3_layFlat yX3_layFlat, Cond.initialized RX3, Cond.code yX3_layFlat cX3_layFlat 7 none]
def wsX6_mustWait_r5 : List Cond := [Cond.fieldLink RX3 30 "BendOrders$State" "bends" "I", Cond.methodLink RX3 36 Lib.Math.min.name, Cond.fieldLink RX3 42 "BendOrders$Shape" "flanges" "I", Cond.methodLink RX3 45 yX3_startAtTool, Cond.instanceMethod yX3_startAtTool, Cond.selects RX3 yX3_startAtTool yX3_startAtTool, Cond.code yX3_startAtTool cX3_startAtTool 2 none, Cond.fieldLink RX3 65 "BendOrders$Shape" "x" "I", Cond.fieldLink RX3 68 "BendOrders$Shape" "y" "I", Cond.fieldLink RX3 71 "BendOrders$Shape" "stepX" "I", Cond.fieldLink RX3 74 "BendOrders$Shape" "stepY" "I", Cond.methodLink RX3 49 yX4_isUp, Cond.methodLink RX3 53 yX3_turnAt, Cond.instanceMethod yX3_turnAt, Cond.selects RX3 yX3_turnAt yX3_turnAt, Cond.code yX3_turnAt cX3_turnAt 5 none, Cond.methodLink RX3 57 yX4_lengthAt, Cond.methodLink RX3 61 yX3_draw, Cond.instanceMethod yX3_draw, Cond.selects RX3 yX3_draw yX3_draw, Cond.code yX3_draw cX3_draw 5 none, Cond.fieldLink RX3 9 "BendOrders$Shape" "left" "[I", Cond.fieldLink RX3 15 "BendOrders$Shape" "right" "[I", Cond.fieldLink RX3 18 "BendOrders$Shape" "bottom" "[I"]
def wsX6_mustWait_r6 : List Cond := [Cond.fieldLink RX3 21 "BendOrders$Shape" "top" "[I", Cond.fieldLink RX3 24 "BendOrders$Shape" "farX" "[I", Cond.fieldLink RX3 27 "BendOrders$Shape" "farY" "[I", Cond.methodLink RX2 36 yX2_inUpper, Cond.instanceMethod yX2_inUpper, Cond.selects RX2 yX2_inUpper yX2_inUpper, Cond.code yX2_inUpper cX2_inUpper 6 (some .int), Cond.methodLink RX2 66 Lib.Math.min.name, Cond.methodLink RX2 71 yX3_flangesIn, Cond.instanceMethod yX3_flangesIn, Cond.selects RX3 yX3_flangesIn yX3_flangesIn, Cond.code yX3_flangesIn cX3_flangesIn 10 (some .int), Cond.methodLink RX2 40 yX2_inLower, Cond.instanceMethod yX2_inLower, Cond.selects RX2 yX2_inLower yX2_inLower, Cond.code yX2_inLower cX2_inLower 1 (some .int), Cond.methodLink RX2 44 yX3_swingUp, Cond.instanceMethod yX3_swingUp, Cond.selects RX3 yX3_swingUp yX3_swingUp, Cond.code yX3_swingUp cX3_swingUp 5 none, Cond.methodLink RX2 48 yX3_strikesItself, Cond.instanceMethod yX3_strikesItself, Cond.selects RX3 yX3_strikesItself yX3_strikesItself, Cond.code yX3_strikesItself cX3_strikesItself 3 (some .boolean)]
def wsX6_mustWait_r7 : List Cond := [Cond.methodLink RX3 77 yX3_flangesIn, Cond.methodLink RX6 186 yX1_waysFrom, Cond.methodLink RX6 192 yX1_canPrecede, Cond.instanceMethod yX1_canPrecede, Cond.selects RX1 yX1_canPrecede yX1_canPrecede, Cond.code yX1_canPrecede cX1_canPrecede 6 (some .boolean), Cond.fieldLink RX1 36 "BendOrders$Plan" "reached" "[Z", Cond.methodLink RX1 84 Lib.Math.max.name, Cond.static Lib.Math.max.name, Cond.code Lib.Math.max.name Lib.Math.max.code 2 (some .int), Cond.methodLink RX1 78 yX1_stepsFrom, Cond.instanceMethod yX1_stepsFrom, Cond.selects RX1 yX1_stepsFrom yX1_stepsFrom, Cond.code yX1_stepsFrom cX1_stepsFrom 2 (some .int), Cond.methodLink RX1 87 yX1_reachFrom, Cond.instanceMethod yX1_reachFrom, Cond.selects RX1 yX1_reachFrom yX1_reachFrom, Cond.code yX1_reachFrom cX1_reachFrom 5 none, Cond.methodLink RX6 127 yX6_asNumber, Cond.static yX6_asNumber, Cond.code yX6_asNumber cX6_asNumber 1 (some .int)]
def wsX6_mustWait : List Cond := .code yX6_mustWait cX6_mustWait 3 (some .int) :: ((wsX6_mustWait_r1 ++ (wsX6_mustWait_r2 ++ (wsX6_mustWait_r3 ++ (wsX6_mustWait_r4 ++ (wsX6_mustWait_r5 ++ (wsX6_mustWait_r6 ++ wsX6_mustWait_r7)))))) ++ wsX60 ++ wsX40 ++ wsX10 ++ wsX20 ++ wsX30)
def wsX6_possibleNow_r1 : List Cond := [Cond.fieldLink RX6 10 "BendOrders" "now" "LBendOrders$State;", Cond.fieldLink RX6 66 "BendOrders$State" "bends" "I", Cond.fieldLink RX6 40 "BendOrders" "press" "LBendOrders$Press;", Cond.fieldLink RX6 86 "BendOrders$State" "done" "I", Cond.fieldLink RX6 124 "BendOrders$State" "over" "Z", Cond.methodLink RX6 131 yX2_reason, Cond.instanceMethod yX2_reason, Cond.selects RX2 yX2_reason yX2_reason, Cond.initialized RX2, Cond.code yX2_reason cX2_reason 7 (some .int), Cond.fieldLink RX2 12 "BendOrders$Press" "shape" "LBendOrders$Shape;", Cond.methodLink RX2 18 yX4_isUp, Cond.instanceMethod yX4_isUp, Cond.selects RX4 yX4_isUp yX4_isUp, Cond.initialized RX4, Cond.code yX4_isUp cX4_isUp 2 (some .boolean), Cond.fieldLink RX4 15 "BendOrders$State" "ups" "I", Cond.methodLink RX2 24 yX4_clampedLength, Cond.instanceMethod yX4_clampedLength, Cond.selects RX4 yX4_clampedLength yX4_clampedLength, Cond.code yX4_clampedLength cX4_clampedLength 5 (some .int), Cond.fieldLink RX4 9 "BendOrders$State" "bends" "I", Cond.methodLink RX4 63 yX4_lengthAt, Cond.instanceMethod yX4_lengthAt]
def wsX6_possibleNow_r2 : List Cond := [Cond.selects RX4 yX4_lengthAt yX4_lengthAt, Cond.code yX4_lengthAt cX4_lengthAt 2 (some .int), Cond.fieldLink RX4 28 "BendOrders$State" "lengths" "[I", Cond.methodLink RX2 28 yX4_settingAt, Cond.instanceMethod yX4_settingAt, Cond.selects RX4 yX4_settingAt yX4_settingAt, Cond.code yX4_settingAt cX4_settingAt 2 (some .int), Cond.fieldLink RX4 35 "BendOrders$State" "settings" "[I", Cond.methodLink RX2 32 yX3_layFlat, Cond.instanceMethod yX3_layFlat, Cond.selects RX3 yX3_layFlat yX3_layFlat, Cond.initialized RX3, Cond.code yX3_layFlat cX3_layFlat 7 none, Cond.fieldLink RX3 30 "BendOrders$State" "bends" "I", Cond.methodLink RX3 36 Lib.Math.min.name, Cond.static Lib.Math.min.name, Cond.initialized "java/lang/Math", Cond.code Lib.Math.min.name Lib.Math.min.code 2 (some .int), Cond.fieldLink RX3 42 "BendOrders$Shape" "flanges" "I", Cond.methodLink RX3 45 yX3_startAtTool, Cond.instanceMethod yX3_startAtTool, Cond.selects RX3 yX3_startAtTool yX3_startAtTool, Cond.code yX3_startAtTool cX3_startAtTool 2 none, Cond.fieldLink RX3 65 "BendOrders$Shape" "x" "I"]
def wsX6_possibleNow_r3 : List Cond := [Cond.fieldLink RX3 68 "BendOrders$Shape" "y" "I", Cond.fieldLink RX3 71 "BendOrders$Shape" "stepX" "I", Cond.fieldLink RX3 74 "BendOrders$Shape" "stepY" "I", Cond.methodLink RX3 49 yX4_isUp, Cond.methodLink RX3 53 yX3_turnAt, Cond.instanceMethod yX3_turnAt, Cond.selects RX3 yX3_turnAt yX3_turnAt, Cond.code yX3_turnAt cX3_turnAt 5 none, Cond.methodLink RX3 57 yX4_lengthAt, Cond.methodLink RX3 61 yX3_draw, Cond.instanceMethod yX3_draw, Cond.selects RX3 yX3_draw yX3_draw, Cond.code yX3_draw cX3_draw 5 none, Cond.fieldLink RX3 9 "BendOrders$Shape" "left" "[I", Cond.fieldLink RX3 15 "BendOrders$Shape" "right" "[I", Cond.fieldLink RX3 18 "BendOrders$Shape" "bottom" "[I", Cond.fieldLink RX3 21 "BendOrders$Shape" "top" "[I", Cond.fieldLink RX3 24 "BendOrders$Shape" "farX" "[I", Cond.fieldLink RX3 27 "BendOrders$Shape" "farY" "[I", Cond.methodLink RX2 36 yX2_inUpper, Cond.instanceMethod yX2_inUpper, Cond.selects RX2 yX2_inUpper yX2_inUpper, Cond.code yX2_inUpper cX2_inUpper 6 (some .int), Cond.methodLink RX2 66 Lib.Math.min.name]
def wsX6_possibleNow_r4 : List Cond := [Cond.methodLink RX2 71 yX3_flangesIn, Cond.instanceMethod yX3_flangesIn, Cond.selects RX3 yX3_flangesIn yX3_flangesIn, Cond.code yX3_flangesIn cX3_flangesIn 10 (some .int), Cond.methodLink RX2 40 yX2_inLower, Cond.instanceMethod yX2_inLower, Cond.selects RX2 yX2_inLower yX2_inLower, Cond.code yX2_inLower cX2_inLower 1 (some .int), Cond.methodLink RX2 44 yX3_swingUp, Cond.instanceMethod yX3_swingUp, Cond.selects RX3 yX3_swingUp yX3_swingUp, Cond.code yX3_swingUp cX3_swingUp 5 none, Cond.methodLink RX2 48 yX3_strikesItself, Cond.instanceMethod yX3_strikesItself, Cond.selects RX3 yX3_strikesItself yX3_strikesItself, Cond.code yX3_strikesItself cX3_strikesItself 3 (some .boolean), Cond.methodLink RX3 77 yX3_flangesIn]
def wsX6_possibleNow : List Cond := .code yX6_possibleNow cX6_possibleNow 3 (some .int) :: ((wsX6_possibleNow_r1 ++ (wsX6_possibleNow_r2 ++ (wsX6_possibleNow_r3 ++ wsX6_possibleNow_r4))) ++ wsX60 ++ wsX40 ++ wsX20 ++ wsX30)
def wsX6_count_r1 : List Cond := [Cond.fieldLink RX6 10 "BendOrders" "now" "LBendOrders$State;", Cond.fieldLink RX6 66 "BendOrders$State" "bends" "I", Cond.fieldLink RX6 124 "BendOrders$State" "over" "Z", Cond.fieldLink RX6 47 "BendOrders" "plan" "LBendOrders$Plan;", Cond.fieldLink RX6 86 "BendOrders$State" "done" "I", Cond.fieldLink RX6 206 "BendOrders$State" "bendings" "I", Cond.fieldLink RX6 26 "BendOrders" "history" "LBendOrders$History;", Cond.fieldLink RX6 167 "BendOrders$History" "size" "I", Cond.fieldLink RX6 33 "BendOrders" "text" "LBendOrders$Text;", Cond.fieldLink RX6 160 "BendOrders$Text" "size" "I", Cond.methodLink RX6 138 yX4_doneBends, Cond.instanceMethod yX4_doneBends, Cond.selects RX4 yX4_doneBends yX4_doneBends, Cond.initialized RX4, Cond.code yX4_doneBends cX4_doneBends 1 (some .int), Cond.fieldLink RX4 18 "BendOrders$State" "done" "I", Cond.methodLink RX4 53 yJ6_bitCount_0f7a4, Cond.static yJ6_bitCount_0f7a4, Cond.initialized RJ6, Cond.code yJ6_bitCount_0f7a4 cJ6_bitCount_0f7a4 1 (some .int), Cond.constant RJ6 265 (1431655765), Cond.constant RJ6 266 (858993459), Cond.constant RJ6 267 (252645135), Cond.methodLink RX6 127 yX6_asNumber]
def wsX6_count_r2 : List Cond := [Cond.static yX6_asNumber, Cond.initialized RX6, Cond.code yX6_asNumber cX6_asNumber 1 (some .int), Cond.methodLink RX6 144 yX6_hasOrder, Cond.instanceMethod yX6_hasOrder, Cond.selects RX6 yX6_hasOrder yX6_hasOrder, Cond.code yX6_hasOrder cX6_hasOrder 1 (some .boolean), Cond.methodLink RX6 183 yX1_prepare, Cond.instanceMethod yX1_prepare, Cond.selects RX1 yX1_prepare yX1_prepare, Cond.initialized RX1, Cond.code yX1_prepare cX1_prepare 4 none, Cond.fieldLink RX1 25 "BendOrders$Plan" "made" "Z", Cond.fieldLink RX1 21 "BendOrders$Plan" "planned" "LBendOrders$State;", Cond.fieldLink RX1 29 "BendOrders$Plan" "ways" "[I", Cond.methodLink RX1 52 Lib.Math.min.name, Cond.static Lib.Math.min.name, Cond.initialized "java/lang/Math", Cond.code Lib.Math.min.name Lib.Math.min.code 2 (some .int), Cond.methodLink RX1 40 yX4_bendsLike, Cond.instanceMethod yX4_bendsLike, Cond.selects RX4 yX4_bendsLike yX4_bendsLike, Cond.code yX4_bendsLike cX4_bendsLike 3 (some .boolean), Cond.fieldLink RX4 9 "BendOrders$State" "bends" "I"]
def wsX6_count_r3 : List Cond := [Cond.fieldLink RX4 15 "BendOrders$State" "ups" "I", Cond.methodLink RX4 63 yX4_lengthAt, Cond.instanceMethod yX4_lengthAt, Cond.selects RX4 yX4_lengthAt yX4_lengthAt, Cond.code yX4_lengthAt cX4_lengthAt 2 (some .int), Cond.fieldLink RX4 28 "BendOrders$State" "lengths" "[I", Cond.methodLink RX4 66 yX4_settingAt, Cond.instanceMethod yX4_settingAt, Cond.selects RX4 yX4_settingAt yX4_settingAt, Cond.code yX4_settingAt cX4_settingAt 2 (some .int), Cond.fieldLink RX4 35 "BendOrders$State" "settings" "[I", Cond.methodLink RX1 44 yX4_copyFrom, Cond.instanceMethod yX4_copyFrom, Cond.selects RX4 yX4_copyFrom yX4_copyFrom, Cond.code yX4_copyFrom cX4_copyFrom 2 none, Cond.fieldLink RX4 21 "BendOrders$State" "over" "Z", Cond.fieldLink RX4 25 "BendOrders$State" "bendings" "I", Cond.methodLink RX4 38 arraycopyName, Cond.native arraycopyName, Cond.static arraycopyName, Cond.initialized "java/lang/System", Cond.methodLink RX1 48 yX4_allBends, Cond.instanceMethod yX4_allBends, Cond.selects RX4 yX4_allBends yX4_allBends]
def wsX6_count_r4 : List Cond := [Cond.code yX4_allBends cX4_allBends 1 (some .int), Cond.methodLink RX1 58 yX1_fillRow, Cond.instanceMethod yX1_fillRow, Cond.selects RX1 yX1_fillRow yX1_fillRow, Cond.code yX1_fillRow cX1_fillRow 8 none, Cond.fieldLink RX1 62 "BendOrders$State" "bends" "I", Cond.fieldLink RX1 12 "BendOrders$Plan" "press" "LBendOrders$Press;", Cond.fieldLink RX1 33 "BendOrders$Plan" "steps" "[I", Cond.methodLink RX1 66 yX1_waysFrom, Cond.instanceMethod yX1_waysFrom, Cond.selects RX1 yX1_waysFrom yX1_waysFrom, Cond.code yX1_waysFrom cX1_waysFrom 2 (some .int), Cond.methodLink RX1 70 yX4_isUp, Cond.instanceMethod yX4_isUp, Cond.selects RX4 yX4_isUp yX4_isUp, Cond.code yX4_isUp cX4_isUp 2 (some .boolean), Cond.methodLink RX1 74 yX2_reason, Cond.instanceMethod yX2_reason, Cond.selects RX2 yX2_reason yX2_reason, Cond.initialized RX2, Cond.code yX2_reason cX2_reason 7 (some .int), Cond.fieldLink RX2 12 "BendOrders$Press" "shape" "LBendOrders$Shape;", Cond.methodLink RX2 18 yX4_isUp, Cond.methodLink RX2 24 yX4_clampedLength]
def wsX6_count_r5 : List Cond := [Cond.instanceMethod yX4_clampedLength, Cond.selects RX4 yX4_clampedLength yX4_clampedLength, Cond.code yX4_clampedLength cX4_clampedLength 5 (some .int), Cond.methodLink RX2 28 yX4_settingAt, Cond.methodLink RX2 32 yX3_layFlat, Cond.instanceMethod yX3_layFlat, Cond.selects RX3 yX3_layFlat yX3_layFlat, Cond.initialized RX3, Cond.code yX3_layFlat cX3_layFlat 7 none, Cond.fieldLink RX3 30 "BendOrders$State" "bends" "I", Cond.methodLink RX3 36 Lib.Math.min.name, Cond.fieldLink RX3 42 "BendOrders$Shape" "flanges" "I", Cond.methodLink RX3 45 yX3_startAtTool, Cond.instanceMethod yX3_startAtTool, Cond.selects RX3 yX3_startAtTool yX3_startAtTool, Cond.code yX3_startAtTool cX3_startAtTool 2 none, Cond.fieldLink RX3 65 "BendOrders$Shape" "x" "I", Cond.fieldLink RX3 68 "BendOrders$Shape" "y" "I", Cond.fieldLink RX3 71 "BendOrders$Shape" "stepX" "I", Cond.fieldLink RX3 74 "BendOrders$Shape" "stepY" "I", Cond.methodLink RX3 49 yX4_isUp, Cond.methodLink RX3 53 yX3_turnAt, Cond.instanceMethod yX3_turnAt, Cond.selects RX3 yX3_turnAt yX3_turnAt]
def wsX6_count_r6 : List Cond := [Cond.code yX3_turnAt cX3_turnAt 5 none, Cond.methodLink RX3 57 yX4_lengthAt, Cond.methodLink RX3 61 yX3_draw, Cond.instanceMethod yX3_draw, Cond.selects RX3 yX3_draw yX3_draw, Cond.code yX3_draw cX3_draw 5 none, Cond.fieldLink RX3 9 "BendOrders$Shape" "left" "[I", Cond.fieldLink RX3 15 "BendOrders$Shape" "right" "[I", Cond.fieldLink RX3 18 "BendOrders$Shape" "bottom" "[I", Cond.fieldLink RX3 21 "BendOrders$Shape" "top" "[I", Cond.fieldLink RX3 24 "BendOrders$Shape" "farX" "[I", Cond.fieldLink RX3 27 "BendOrders$Shape" "farY" "[I", Cond.methodLink RX2 36 yX2_inUpper, Cond.instanceMethod yX2_inUpper, Cond.selects RX2 yX2_inUpper yX2_inUpper, Cond.code yX2_inUpper cX2_inUpper 6 (some .int), Cond.methodLink RX2 66 Lib.Math.min.name, Cond.methodLink RX2 71 yX3_flangesIn, Cond.instanceMethod yX3_flangesIn, Cond.selects RX3 yX3_flangesIn yX3_flangesIn, Cond.code yX3_flangesIn cX3_flangesIn 10 (some .int), Cond.methodLink RX2 40 yX2_inLower, Cond.instanceMethod yX2_inLower, Cond.selects RX2 yX2_inLower yX2_inLower]
def wsX6_count_r7 : List Cond := [Cond.code yX2_inLower cX2_inLower 1 (some .int), Cond.methodLink RX2 44 yX3_swingUp, Cond.instanceMethod yX3_swingUp, Cond.selects RX3 yX3_swingUp yX3_swingUp, Cond.code yX3_swingUp cX3_swingUp 5 none, Cond.methodLink RX2 48 yX3_strikesItself, Cond.instanceMethod yX3_strikesItself, Cond.selects RX3 yX3_strikesItself yX3_strikesItself, Cond.code yX3_strikesItself cX3_strikesItself 3 (some .boolean), Cond.methodLink RX3 77 yX3_flangesIn, Cond.methodLink RX6 186 yX1_waysFrom, Cond.methodLink RX6 196 yX6_possibleNow, Cond.instanceMethod yX6_possibleNow, Cond.selects RX6 yX6_possibleNow yX6_possibleNow, Cond.code yX6_possibleNow cX6_possibleNow 3 (some .int), Cond.fieldLink RX6 40 "BendOrders" "press" "LBendOrders$Press;", Cond.methodLink RX6 131 yX2_reason, Cond.methodLink RX6 199 yX1_turnings, Cond.instanceMethod yX1_turnings, Cond.selects RX1 yX1_turnings yX1_turnings, Cond.code yX1_turnings cX1_turnings 8 (some .int), Cond.methodLink RX1 81 yX1_firstStep, Cond.instanceMethod yX1_firstStep, Cond.selects RX1 yX1_firstStep yX1_firstStep]
def wsX6_count_r8 : List Cond := [Cond.code yX1_firstStep cX1_firstStep 4 (some .int), Cond.methodLink RX1 78 yX1_stepsFrom, Cond.instanceMethod yX1_stepsFrom, Cond.selects RX1 yX1_stepsFrom yX1_stepsFrom, Cond.code yX1_stepsFrom cX1_stepsFrom 2 (some .int), Cond.methodLink RX6 203 yX4_wholeLength, Cond.instanceMethod yX4_wholeLength, Cond.selects RX4 yX4_wholeLength yX4_wholeLength, Cond.code yX4_wholeLength cX4_wholeLength 3 (some .int), Cond.methodLink RX6 111 yX4_settingAt]
def wsX6_count : List Cond := .code yX6_count cX6_count 2 (some .int) :: ((wsX6_count_r1 ++ (wsX6_count_r2 ++ (wsX6_count_r3 ++ (wsX6_count_r4 ++ (wsX6_count_r5 ++ (wsX6_count_r6 ++ (wsX6_count_r7 ++ wsX6_count_r8))))))) ++ wsX60 ++ wsX40 ++ wsX00 ++ wsX50 ++ wsX10 ++ wsX20 ++ wsX30)
def wsX7_init : List Cond := .code yX7_init cX7_init 1 none :: ([.methodLink RX7 1 objectInit, .instanceMethod objectInit, .code objectInit ⟨#[0xb1]⟩ 1 none, .arrayClass .int, .fieldLink RX7 7 "BendOrdersModel" "s" "[I", .fieldLink RX7 13 "BendOrdersModel" "before" "[I", .fieldLink RX7 16 "BendOrdersModel" "kept" "[I", .fieldLink RX7 19 "BendOrdersModel" "text" "[I", .fieldLink RX7 22 "BendOrdersModel" "x" "[I", .fieldLink RX7 25 "BendOrdersModel" "y" "[I", .fieldLink RX7 28 "BendOrdersModel" "of" "[I", .fieldLink RX7 31 "BendOrdersModel" "next" "[I", .fieldLink RX7 34 "BendOrdersModel" "ways" "[I"] ++ wsX70)
def wsX7_in : List Cond := .code yX7_in cX7_in 3 (some .boolean) :: ([])
def wsX7_isBend : List Cond := .code yX7_isBend cX7_isBend 2 (some .boolean) :: ([.fieldLink RX7 7 "BendOrdersModel" "s" "[I", .methodLink RX7 37 yX7_in, .static yX7_in, .initialized RX7, .code yX7_in cX7_in 3 (some .boolean)] ++ wsX70)
def wsX7_isFlange : List Cond := .code yX7_isFlange cX7_isFlange 2 (some .boolean) :: ([.fieldLink RX7 7 "BendOrdersModel" "s" "[I", .methodLink RX7 37 yX7_in, .static yX7_in, .initialized RX7, .code yX7_in cX7_in 3 (some .boolean)] ++ wsX70)
def wsX7_has : List Cond := .code yX7_has cX7_has 2 (some .boolean) :: ([])
def wsX7_many : List Cond := .code yX7_many cX7_many 3 (some .int) :: ([])
def wsX7_know : List Cond := .code yX7_know cX7_know 2 none :: ([.fieldLink RX7 41 "BendOrdersModel" "known" "I", .fieldLink RX7 13 "BendOrdersModel" "before" "[I", .fieldLink RX7 7 "BendOrdersModel" "s" "[I"] ++ wsX70)
def wsX7_isUp : List Cond := .code yX7_isUp cX7_isUp 3 (some .boolean) :: ([.fieldLink RX7 7 "BendOrdersModel" "s" "[I"] ++ wsX70)
def wsX7_laySide : List Cond := .code yX7_laySide cX7_laySide 12 none :: ([.fieldLink RX7 7 "BendOrdersModel" "s" "[I", .fieldLink RX7 22 "BendOrdersModel" "x" "[I", .fieldLink RX7 56 "BendOrdersModel" "points" "I", .fieldLink RX7 25 "BendOrdersModel" "y" "[I", .fieldLink RX7 28 "BendOrdersModel" "of" "[I", .methodLink RX7 45 yX7_isFlange, .instanceMethod yX7_isFlange, .selects RX7 yX7_isFlange yX7_isFlange, .initialized RX7, .code yX7_isFlange cX7_isFlange 2 (some .boolean), .methodLink RX7 37 yX7_in, .static yX7_in, .code yX7_in cX7_in 3 (some .boolean), .methodLink RX7 49 yX7_has, .static yX7_has, .code yX7_has cX7_has 2 (some .boolean), .methodLink RX7 53 yX7_isUp, .instanceMethod yX7_isUp, .selects RX7 yX7_isUp yX7_isUp, .code yX7_isUp cX7_isUp 3 (some .boolean)] ++ wsX70)
def wsX7_lay : List Cond := .code yX7_lay cX7_lay 4 none :: ([.fieldLink RX7 56 "BendOrdersModel" "points" "I", .methodLink RX7 59 yX7_laySide, .instanceMethod yX7_laySide, .selects RX7 yX7_laySide yX7_laySide, .initialized RX7, .code yX7_laySide cX7_laySide 12 none, .fieldLink RX7 7 "BendOrdersModel" "s" "[I", .fieldLink RX7 22 "BendOrdersModel" "x" "[I", .fieldLink RX7 25 "BendOrdersModel" "y" "[I", .fieldLink RX7 28 "BendOrdersModel" "of" "[I", .methodLink RX7 45 yX7_isFlange, .instanceMethod yX7_isFlange, .selects RX7 yX7_isFlange yX7_isFlange, .code yX7_isFlange cX7_isFlange 2 (some .boolean), .methodLink RX7 37 yX7_in, .static yX7_in, .code yX7_in cX7_in 3 (some .boolean), .methodLink RX7 49 yX7_has, .static yX7_has, .code yX7_has cX7_has 2 (some .boolean), .methodLink RX7 53 yX7_isUp, .instanceMethod yX7_isUp, .selects RX7 yX7_isUp yX7_isUp, .code yX7_isUp cX7_isUp 3 (some .boolean)] ++ wsX70)
def wsX7_swing : List Cond := .code yX7_swing cX7_swing 4 none :: ([.fieldLink RX7 56 "BendOrdersModel" "points" "I", .fieldLink RX7 28 "BendOrdersModel" "of" "[I", .fieldLink RX7 22 "BendOrdersModel" "x" "[I", .fieldLink RX7 25 "BendOrdersModel" "y" "[I"] ++ wsX70)
def wsX7_strike : List Cond := .code yX7_strike cX7_strike 5 (some .int) :: ([.fieldLink RX7 56 "BendOrdersModel" "points" "I", .fieldLink RX7 25 "BendOrdersModel" "y" "[I", .fieldLink RX7 7 "BendOrdersModel" "s" "[I", .fieldLink RX7 22 "BendOrdersModel" "x" "[I", .fieldLink RX7 28 "BendOrdersModel" "of" "[I", .methodLink RX7 37 yX7_in, .static yX7_in, .initialized RX7, .code yX7_in cX7_in 3 (some .boolean)] ++ wsX70)
def wsX7_strikesItself : List Cond := .code yX7_strikesItself cX7_strikesItself 4 (some .boolean) :: ([.fieldLink RX7 56 "BendOrdersModel" "points" "I", .fieldLink RX7 28 "BendOrdersModel" "of" "[I", .fieldLink RX7 22 "BendOrdersModel" "x" "[I", .fieldLink RX7 25 "BendOrdersModel" "y" "[I"] ++ wsX70)
def wsX7_clamped : List Cond := .code yX7_clamped cX7_clamped 5 (some .int) :: ([.fieldLink RX7 7 "BendOrdersModel" "s" "[I", .methodLink RX7 45 yX7_isFlange, .instanceMethod yX7_isFlange, .selects RX7 yX7_isFlange yX7_isFlange, .initialized RX7, .code yX7_isFlange cX7_isFlange 2 (some .boolean), .methodLink RX7 37 yX7_in, .static yX7_in, .code yX7_in cX7_in 3 (some .boolean), .methodLink RX7 49 yX7_has, .static yX7_has, .code yX7_has cX7_has 2 (some .boolean)] ++ wsX70)
def wsX7_reason_r1 : List Cond := [Cond.fieldLink RX7 7 "BendOrdersModel" "s" "[I", Cond.methodLink RX7 49 yX7_has, Cond.static yX7_has, Cond.initialized RX7, Cond.code yX7_has cX7_has 2 (some .boolean), Cond.methodLink RX7 53 yX7_isUp, Cond.instanceMethod yX7_isUp, Cond.selects RX7 yX7_isUp yX7_isUp, Cond.code yX7_isUp cX7_isUp 3 (some .boolean), Cond.methodLink RX7 63 yX7_clamped, Cond.instanceMethod yX7_clamped, Cond.selects RX7 yX7_clamped yX7_clamped, Cond.code yX7_clamped cX7_clamped 5 (some .int), Cond.methodLink RX7 45 yX7_isFlange, Cond.instanceMethod yX7_isFlange, Cond.selects RX7 yX7_isFlange yX7_isFlange, Cond.code yX7_isFlange cX7_isFlange 2 (some .boolean), Cond.methodLink RX7 37 yX7_in, Cond.static yX7_in, Cond.code yX7_in cX7_in 3 (some .boolean), Cond.methodLink RX7 67 yX7_lay, Cond.instanceMethod yX7_lay, Cond.selects RX7 yX7_lay yX7_lay, Cond.code yX7_lay cX7_lay 4 none]
def wsX7_reason_r2 : List Cond := [Cond.fieldLink RX7 56 "BendOrdersModel" "points" "I", Cond.methodLink RX7 59 yX7_laySide, Cond.instanceMethod yX7_laySide, Cond.selects RX7 yX7_laySide yX7_laySide, Cond.code yX7_laySide cX7_laySide 12 none, Cond.fieldLink RX7 22 "BendOrdersModel" "x" "[I", Cond.fieldLink RX7 25 "BendOrdersModel" "y" "[I", Cond.fieldLink RX7 28 "BendOrdersModel" "of" "[I", Cond.methodLink RX7 71 yX7_strike, Cond.instanceMethod yX7_strike, Cond.selects RX7 yX7_strike yX7_strike, Cond.code yX7_strike cX7_strike 5 (some .int), Cond.methodLink RX7 75 yX7_swing, Cond.instanceMethod yX7_swing, Cond.selects RX7 yX7_swing yX7_swing, Cond.code yX7_swing cX7_swing 4 none, Cond.methodLink RX7 79 yX7_strikesItself, Cond.instanceMethod yX7_strikesItself, Cond.selects RX7 yX7_strikesItself yX7_strikesItself, Cond.code yX7_strikesItself cX7_strikesItself 4 (some .boolean)]
def wsX7_reason : List Cond := .code yX7_reason cX7_reason 6 (some .int) :: ((wsX7_reason_r1 ++ wsX7_reason_r2) ++ wsX70)
def wsX7_all : List Cond := .code yX7_all cX7_all 1 (some .int) :: ([.fieldLink RX7 7 "BendOrdersModel" "s" "[I"] ++ wsX70)
def wsX7_findNext_r1 : List Cond := [Cond.fieldLink RX7 31 "BendOrdersModel" "next" "[I", Cond.fieldLink RX7 7 "BendOrdersModel" "s" "[I", Cond.methodLink RX7 83 yX7_all, Cond.instanceMethod yX7_all, Cond.selects RX7 yX7_all yX7_all, Cond.initialized RX7, Cond.code yX7_all cX7_all 1 (some .int), Cond.methodLink RX7 87 yX7_reason, Cond.instanceMethod yX7_reason, Cond.selects RX7 yX7_reason yX7_reason, Cond.code yX7_reason cX7_reason 6 (some .int), Cond.methodLink RX7 49 yX7_has, Cond.static yX7_has, Cond.code yX7_has cX7_has 2 (some .boolean), Cond.methodLink RX7 53 yX7_isUp, Cond.instanceMethod yX7_isUp, Cond.selects RX7 yX7_isUp yX7_isUp, Cond.code yX7_isUp cX7_isUp 3 (some .boolean), Cond.methodLink RX7 63 yX7_clamped, Cond.instanceMethod yX7_clamped, Cond.selects RX7 yX7_clamped yX7_clamped, Cond.code yX7_clamped cX7_clamped 5 (some .int), Cond.methodLink RX7 45 yX7_isFlange, Cond.instanceMethod yX7_isFlange]
def wsX7_findNext_r2 : List Cond := [Cond.selects RX7 yX7_isFlange yX7_isFlange, Cond.code yX7_isFlange cX7_isFlange 2 (some .boolean), Cond.methodLink RX7 37 yX7_in, Cond.static yX7_in, Cond.code yX7_in cX7_in 3 (some .boolean), Cond.methodLink RX7 67 yX7_lay, Cond.instanceMethod yX7_lay, Cond.selects RX7 yX7_lay yX7_lay, Cond.code yX7_lay cX7_lay 4 none, Cond.fieldLink RX7 56 "BendOrdersModel" "points" "I", Cond.methodLink RX7 59 yX7_laySide, Cond.instanceMethod yX7_laySide, Cond.selects RX7 yX7_laySide yX7_laySide, Cond.code yX7_laySide cX7_laySide 12 none, Cond.fieldLink RX7 22 "BendOrdersModel" "x" "[I", Cond.fieldLink RX7 25 "BendOrdersModel" "y" "[I", Cond.fieldLink RX7 28 "BendOrdersModel" "of" "[I", Cond.methodLink RX7 71 yX7_strike, Cond.instanceMethod yX7_strike, Cond.selects RX7 yX7_strike yX7_strike, Cond.code yX7_strike cX7_strike 5 (some .int), Cond.methodLink RX7 75 yX7_swing, Cond.instanceMethod yX7_swing, Cond.selects RX7 yX7_swing yX7_swing]
def wsX7_findNext_r3 : List Cond := [Cond.code yX7_swing cX7_swing 4 none, Cond.methodLink RX7 79 yX7_strikesItself, Cond.instanceMethod yX7_strikesItself, Cond.selects RX7 yX7_strikesItself yX7_strikesItself, Cond.code yX7_strikesItself cX7_strikesItself 4 (some .boolean)]
def wsX7_findNext : List Cond := .code yX7_findNext cX7_findNext 3 none :: ((wsX7_findNext_r1 ++ (wsX7_findNext_r2 ++ wsX7_findNext_r3)) ++ wsX70)
def wsX7_countOrders : List Cond := .code yX7_countOrders cX7_countOrders 6 (some .int) :: ([.fieldLink RX7 34 "BendOrdersModel" "ways" "[I", .fieldLink RX7 7 "BendOrdersModel" "s" "[I", .fieldLink RX7 31 "BendOrdersModel" "next" "[I", .methodLink RX7 83 yX7_all, .instanceMethod yX7_all, .selects RX7 yX7_all yX7_all, .initialized RX7, .code yX7_all cX7_all 1 (some .int), .methodLink RX7 49 yX7_has, .static yX7_has, .code yX7_has cX7_has 2 (some .boolean)] ++ wsX70)
def wsX7_allOrders_r1 : List Cond := [Cond.methodLink RX7 91 yX7_findNext, Cond.instanceMethod yX7_findNext, Cond.selects RX7 yX7_findNext yX7_findNext, Cond.initialized RX7, Cond.code yX7_findNext cX7_findNext 3 none, Cond.fieldLink RX7 31 "BendOrdersModel" "next" "[I", Cond.fieldLink RX7 7 "BendOrdersModel" "s" "[I", Cond.methodLink RX7 83 yX7_all, Cond.instanceMethod yX7_all, Cond.selects RX7 yX7_all yX7_all, Cond.code yX7_all cX7_all 1 (some .int), Cond.methodLink RX7 87 yX7_reason, Cond.instanceMethod yX7_reason, Cond.selects RX7 yX7_reason yX7_reason, Cond.code yX7_reason cX7_reason 6 (some .int), Cond.methodLink RX7 49 yX7_has, Cond.static yX7_has, Cond.code yX7_has cX7_has 2 (some .boolean), Cond.methodLink RX7 53 yX7_isUp, Cond.instanceMethod yX7_isUp, Cond.selects RX7 yX7_isUp yX7_isUp, Cond.code yX7_isUp cX7_isUp 3 (some .boolean), Cond.methodLink RX7 63 yX7_clamped, Cond.instanceMethod yX7_clamped]
def wsX7_allOrders_r2 : List Cond := [Cond.selects RX7 yX7_clamped yX7_clamped, Cond.code yX7_clamped cX7_clamped 5 (some .int), Cond.methodLink RX7 45 yX7_isFlange, Cond.instanceMethod yX7_isFlange, Cond.selects RX7 yX7_isFlange yX7_isFlange, Cond.code yX7_isFlange cX7_isFlange 2 (some .boolean), Cond.methodLink RX7 37 yX7_in, Cond.static yX7_in, Cond.code yX7_in cX7_in 3 (some .boolean), Cond.methodLink RX7 67 yX7_lay, Cond.instanceMethod yX7_lay, Cond.selects RX7 yX7_lay yX7_lay, Cond.code yX7_lay cX7_lay 4 none, Cond.fieldLink RX7 56 "BendOrdersModel" "points" "I", Cond.methodLink RX7 59 yX7_laySide, Cond.instanceMethod yX7_laySide, Cond.selects RX7 yX7_laySide yX7_laySide, Cond.code yX7_laySide cX7_laySide 12 none, Cond.fieldLink RX7 22 "BendOrdersModel" "x" "[I", Cond.fieldLink RX7 25 "BendOrdersModel" "y" "[I", Cond.fieldLink RX7 28 "BendOrdersModel" "of" "[I", Cond.methodLink RX7 71 yX7_strike, Cond.instanceMethod yX7_strike, Cond.selects RX7 yX7_strike yX7_strike]
def wsX7_allOrders_r3 : List Cond := [Cond.code yX7_strike cX7_strike 5 (some .int), Cond.methodLink RX7 75 yX7_swing, Cond.instanceMethod yX7_swing, Cond.selects RX7 yX7_swing yX7_swing, Cond.code yX7_swing cX7_swing 4 none, Cond.methodLink RX7 79 yX7_strikesItself, Cond.instanceMethod yX7_strikesItself, Cond.selects RX7 yX7_strikesItself yX7_strikesItself, Cond.code yX7_strikesItself cX7_strikesItself 4 (some .boolean), Cond.methodLink RX7 94 yX7_countOrders, Cond.instanceMethod yX7_countOrders, Cond.selects RX7 yX7_countOrders yX7_countOrders, Cond.code yX7_countOrders cX7_countOrders 6 (some .int), Cond.fieldLink RX7 34 "BendOrdersModel" "ways" "[I"]
def wsX7_allOrders : List Cond := .code yX7_allOrders cX7_allOrders 1 (some .int) :: ((wsX7_allOrders_r1 ++ (wsX7_allOrders_r2 ++ wsX7_allOrders_r3)) ++ wsX70)
def wsX7_nextOf : List Cond := .code yX7_nextOf cX7_nextOf 3 (some .int) :: ([.fieldLink RX7 7 "BendOrdersModel" "s" "[I", .fieldLink RX7 31 "BendOrdersModel" "next" "[I", .fieldLink RX7 34 "BendOrdersModel" "ways" "[I", .methodLink RX7 49 yX7_has, .static yX7_has, .initialized RX7, .code yX7_has cX7_has 2 (some .boolean)] ++ wsX70)
def wsX7_turnings_r1 : List Cond := [Cond.fieldLink RX7 7 "BendOrdersModel" "s" "[I", Cond.methodLink RX7 97 yX7_allOrders, Cond.instanceMethod yX7_allOrders, Cond.selects RX7 yX7_allOrders yX7_allOrders, Cond.initialized RX7, Cond.code yX7_allOrders cX7_allOrders 1 (some .int), Cond.methodLink RX7 91 yX7_findNext, Cond.instanceMethod yX7_findNext, Cond.selects RX7 yX7_findNext yX7_findNext, Cond.code yX7_findNext cX7_findNext 3 none, Cond.fieldLink RX7 31 "BendOrdersModel" "next" "[I", Cond.methodLink RX7 83 yX7_all, Cond.instanceMethod yX7_all, Cond.selects RX7 yX7_all yX7_all, Cond.code yX7_all cX7_all 1 (some .int), Cond.methodLink RX7 87 yX7_reason, Cond.instanceMethod yX7_reason, Cond.selects RX7 yX7_reason yX7_reason, Cond.code yX7_reason cX7_reason 6 (some .int), Cond.methodLink RX7 49 yX7_has, Cond.static yX7_has, Cond.code yX7_has cX7_has 2 (some .boolean), Cond.methodLink RX7 53 yX7_isUp, Cond.instanceMethod yX7_isUp]
def wsX7_turnings_r2 : List Cond := [Cond.selects RX7 yX7_isUp yX7_isUp, Cond.code yX7_isUp cX7_isUp 3 (some .boolean), Cond.methodLink RX7 63 yX7_clamped, Cond.instanceMethod yX7_clamped, Cond.selects RX7 yX7_clamped yX7_clamped, Cond.code yX7_clamped cX7_clamped 5 (some .int), Cond.methodLink RX7 45 yX7_isFlange, Cond.instanceMethod yX7_isFlange, Cond.selects RX7 yX7_isFlange yX7_isFlange, Cond.code yX7_isFlange cX7_isFlange 2 (some .boolean), Cond.methodLink RX7 37 yX7_in, Cond.static yX7_in, Cond.code yX7_in cX7_in 3 (some .boolean), Cond.methodLink RX7 67 yX7_lay, Cond.instanceMethod yX7_lay, Cond.selects RX7 yX7_lay yX7_lay, Cond.code yX7_lay cX7_lay 4 none, Cond.fieldLink RX7 56 "BendOrdersModel" "points" "I", Cond.methodLink RX7 59 yX7_laySide, Cond.instanceMethod yX7_laySide, Cond.selects RX7 yX7_laySide yX7_laySide, Cond.code yX7_laySide cX7_laySide 12 none, Cond.fieldLink RX7 22 "BendOrdersModel" "x" "[I", Cond.fieldLink RX7 25 "BendOrdersModel" "y" "[I"]
def wsX7_turnings_r3 : List Cond := [Cond.fieldLink RX7 28 "BendOrdersModel" "of" "[I", Cond.methodLink RX7 71 yX7_strike, Cond.instanceMethod yX7_strike, Cond.selects RX7 yX7_strike yX7_strike, Cond.code yX7_strike cX7_strike 5 (some .int), Cond.methodLink RX7 75 yX7_swing, Cond.instanceMethod yX7_swing, Cond.selects RX7 yX7_swing yX7_swing, Cond.code yX7_swing cX7_swing 4 none, Cond.methodLink RX7 79 yX7_strikesItself, Cond.instanceMethod yX7_strikesItself, Cond.selects RX7 yX7_strikesItself yX7_strikesItself, Cond.code yX7_strikesItself cX7_strikesItself 4 (some .boolean), Cond.methodLink RX7 94 yX7_countOrders, Cond.instanceMethod yX7_countOrders, Cond.selects RX7 yX7_countOrders yX7_countOrders, Cond.code yX7_countOrders cX7_countOrders 6 (some .int), Cond.fieldLink RX7 34 "BendOrdersModel" "ways" "[I", Cond.methodLink RX7 100 yX7_nextOf, Cond.instanceMethod yX7_nextOf, Cond.selects RX7 yX7_nextOf yX7_nextOf, Cond.code yX7_nextOf cX7_nextOf 3 (some .int)]
def wsX7_turnings : List Cond := .code yX7_turnings cX7_turnings 5 (some .int) :: ((wsX7_turnings_r1 ++ (wsX7_turnings_r2 ++ wsX7_turnings_r3)) ++ wsX70)
def wsX7_puts : List Cond := .code yX7_puts cX7_puts 4 (some .int) :: ([.fieldLink RX7 7 "BendOrdersModel" "s" "[I"] ++ wsX70)
def wsX7_setLength : List Cond := .code yX7_setLength cX7_setLength 3 (some .int) :: ([.fieldLink RX7 7 "BendOrdersModel" "s" "[I", .methodLink RX7 45 yX7_isFlange, .instanceMethod yX7_isFlange, .selects RX7 yX7_isFlange yX7_isFlange, .initialized RX7, .code yX7_isFlange cX7_isFlange 2 (some .boolean), .methodLink RX7 37 yX7_in, .static yX7_in, .code yX7_in cX7_in 3 (some .boolean), .methodLink RX7 104 yX7_know, .instanceMethod yX7_know, .selects RX7 yX7_know yX7_know, .code yX7_know cX7_know 2 none, .fieldLink RX7 41 "BendOrdersModel" "known" "I", .fieldLink RX7 13 "BendOrdersModel" "before" "[I", .methodLink RX7 107 yX7_puts, .instanceMethod yX7_puts, .selects RX7 yX7_puts yX7_puts, .code yX7_puts cX7_puts 4 (some .int)] ++ wsX70)
def wsX7_setUp : List Cond := .code yX7_setUp cX7_setUp 5 (some .int) :: ([.fieldLink RX7 7 "BendOrdersModel" "s" "[I", .methodLink RX7 110 yX7_isBend, .instanceMethod yX7_isBend, .selects RX7 yX7_isBend yX7_isBend, .initialized RX7, .code yX7_isBend cX7_isBend 2 (some .boolean), .methodLink RX7 37 yX7_in, .static yX7_in, .code yX7_in cX7_in 3 (some .boolean), .methodLink RX7 104 yX7_know, .instanceMethod yX7_know, .selects RX7 yX7_know yX7_know, .code yX7_know cX7_know 2 none, .fieldLink RX7 41 "BendOrdersModel" "known" "I", .fieldLink RX7 13 "BendOrdersModel" "before" "[I"] ++ wsX70)
def wsX7_set : List Cond := .code yX7_set cX7_set 5 (some .int) :: ([.fieldLink RX7 7 "BendOrdersModel" "s" "[I", .methodLink RX7 37 yX7_in, .static yX7_in, .initialized RX7, .code yX7_in cX7_in 3 (some .boolean), .methodLink RX7 104 yX7_know, .instanceMethod yX7_know, .selects RX7 yX7_know yX7_know, .code yX7_know cX7_know 2 none, .fieldLink RX7 41 "BendOrdersModel" "known" "I", .fieldLink RX7 13 "BendOrdersModel" "before" "[I", .methodLink RX7 107 yX7_puts, .instanceMethod yX7_puts, .selects RX7 yX7_puts yX7_puts, .code yX7_puts cX7_puts 4 (some .int)] ++ wsX70)
def wsX7_layOver : List Cond := .code yX7_layOver cX7_layOver 1 (some .int) :: ([.fieldLink RX7 7 "BendOrdersModel" "s" "[I", .methodLink RX7 104 yX7_know, .instanceMethod yX7_know, .selects RX7 yX7_know yX7_know, .initialized RX7, .code yX7_know cX7_know 2 none, .fieldLink RX7 41 "BendOrdersModel" "known" "I", .fieldLink RX7 13 "BendOrdersModel" "before" "[I"] ++ wsX70)
def wsX7_does : List Cond := .code yX7_does cX7_does 2 (some .int) :: ([.fieldLink RX7 7 "BendOrdersModel" "s" "[I", .methodLink RX7 113 yX7_many, .static yX7_many, .initialized RX7, .code yX7_many cX7_many 3 (some .int)] ++ wsX70)
def wsX7_bend_r1 : List Cond := [Cond.fieldLink RX7 7 "BendOrdersModel" "s" "[I", Cond.methodLink RX7 110 yX7_isBend, Cond.instanceMethod yX7_isBend, Cond.selects RX7 yX7_isBend yX7_isBend, Cond.initialized RX7, Cond.code yX7_isBend cX7_isBend 2 (some .boolean), Cond.methodLink RX7 37 yX7_in, Cond.static yX7_in, Cond.code yX7_in cX7_in 3 (some .boolean), Cond.methodLink RX7 87 yX7_reason, Cond.instanceMethod yX7_reason, Cond.selects RX7 yX7_reason yX7_reason, Cond.code yX7_reason cX7_reason 6 (some .int), Cond.methodLink RX7 49 yX7_has, Cond.static yX7_has, Cond.code yX7_has cX7_has 2 (some .boolean), Cond.methodLink RX7 53 yX7_isUp, Cond.instanceMethod yX7_isUp, Cond.selects RX7 yX7_isUp yX7_isUp, Cond.code yX7_isUp cX7_isUp 3 (some .boolean), Cond.methodLink RX7 63 yX7_clamped, Cond.instanceMethod yX7_clamped, Cond.selects RX7 yX7_clamped yX7_clamped, Cond.code yX7_clamped cX7_clamped 5 (some .int)]
def wsX7_bend_r2 : List Cond := [Cond.methodLink RX7 45 yX7_isFlange, Cond.instanceMethod yX7_isFlange, Cond.selects RX7 yX7_isFlange yX7_isFlange, Cond.code yX7_isFlange cX7_isFlange 2 (some .boolean), Cond.methodLink RX7 67 yX7_lay, Cond.instanceMethod yX7_lay, Cond.selects RX7 yX7_lay yX7_lay, Cond.code yX7_lay cX7_lay 4 none, Cond.fieldLink RX7 56 "BendOrdersModel" "points" "I", Cond.methodLink RX7 59 yX7_laySide, Cond.instanceMethod yX7_laySide, Cond.selects RX7 yX7_laySide yX7_laySide, Cond.code yX7_laySide cX7_laySide 12 none, Cond.fieldLink RX7 22 "BendOrdersModel" "x" "[I", Cond.fieldLink RX7 25 "BendOrdersModel" "y" "[I", Cond.fieldLink RX7 28 "BendOrdersModel" "of" "[I", Cond.methodLink RX7 71 yX7_strike, Cond.instanceMethod yX7_strike, Cond.selects RX7 yX7_strike yX7_strike, Cond.code yX7_strike cX7_strike 5 (some .int), Cond.methodLink RX7 75 yX7_swing, Cond.instanceMethod yX7_swing, Cond.selects RX7 yX7_swing yX7_swing, Cond.code yX7_swing cX7_swing 4 none]
def wsX7_bend_r3 : List Cond := [Cond.methodLink RX7 79 yX7_strikesItself, Cond.instanceMethod yX7_strikesItself, Cond.selects RX7 yX7_strikesItself yX7_strikesItself, Cond.code yX7_strikesItself cX7_strikesItself 4 (some .boolean), Cond.methodLink RX7 104 yX7_know, Cond.instanceMethod yX7_know, Cond.selects RX7 yX7_know yX7_know, Cond.code yX7_know cX7_know 2 none, Cond.fieldLink RX7 41 "BendOrdersModel" "known" "I", Cond.fieldLink RX7 13 "BendOrdersModel" "before" "[I", Cond.methodLink RX7 116 yX7_does, Cond.instanceMethod yX7_does, Cond.selects RX7 yX7_does yX7_does, Cond.code yX7_does cX7_does 2 (some .int), Cond.methodLink RX7 113 yX7_many, Cond.static yX7_many, Cond.code yX7_many cX7_many 3 (some .int)]
def wsX7_bend : List Cond := .code yX7_bend cX7_bend 2 (some .int) :: ((wsX7_bend_r1 ++ (wsX7_bend_r2 ++ wsX7_bend_r3)) ++ wsX70)
def wsX7_flatten : List Cond := .code yX7_flatten cX7_flatten 2 (some .int) :: ([.fieldLink RX7 7 "BendOrdersModel" "s" "[I", .methodLink RX7 110 yX7_isBend, .instanceMethod yX7_isBend, .selects RX7 yX7_isBend yX7_isBend, .initialized RX7, .code yX7_isBend cX7_isBend 2 (some .boolean), .methodLink RX7 37 yX7_in, .static yX7_in, .code yX7_in cX7_in 3 (some .boolean), .methodLink RX7 49 yX7_has, .static yX7_has, .code yX7_has cX7_has 2 (some .boolean), .methodLink RX7 104 yX7_know, .instanceMethod yX7_know, .selects RX7 yX7_know yX7_know, .code yX7_know cX7_know 2 none, .fieldLink RX7 41 "BendOrdersModel" "known" "I", .fieldLink RX7 13 "BendOrdersModel" "before" "[I", .methodLink RX7 113 yX7_many, .static yX7_many, .code yX7_many cX7_many 3 (some .int)] ++ wsX70)
def wsX7_follow_r1 : List Cond := [Cond.fieldLink RX7 7 "BendOrdersModel" "s" "[I", Cond.methodLink RX7 37 yX7_in, Cond.static yX7_in, Cond.initialized RX7, Cond.code yX7_in cX7_in 3 (some .boolean), Cond.methodLink RX7 97 yX7_allOrders, Cond.instanceMethod yX7_allOrders, Cond.selects RX7 yX7_allOrders yX7_allOrders, Cond.code yX7_allOrders cX7_allOrders 1 (some .int), Cond.methodLink RX7 91 yX7_findNext, Cond.instanceMethod yX7_findNext, Cond.selects RX7 yX7_findNext yX7_findNext, Cond.code yX7_findNext cX7_findNext 3 none, Cond.fieldLink RX7 31 "BendOrdersModel" "next" "[I", Cond.methodLink RX7 83 yX7_all, Cond.instanceMethod yX7_all, Cond.selects RX7 yX7_all yX7_all, Cond.code yX7_all cX7_all 1 (some .int), Cond.methodLink RX7 87 yX7_reason, Cond.instanceMethod yX7_reason, Cond.selects RX7 yX7_reason yX7_reason, Cond.code yX7_reason cX7_reason 6 (some .int), Cond.methodLink RX7 49 yX7_has, Cond.static yX7_has]
def wsX7_follow_r2 : List Cond := [Cond.code yX7_has cX7_has 2 (some .boolean), Cond.methodLink RX7 53 yX7_isUp, Cond.instanceMethod yX7_isUp, Cond.selects RX7 yX7_isUp yX7_isUp, Cond.code yX7_isUp cX7_isUp 3 (some .boolean), Cond.methodLink RX7 63 yX7_clamped, Cond.instanceMethod yX7_clamped, Cond.selects RX7 yX7_clamped yX7_clamped, Cond.code yX7_clamped cX7_clamped 5 (some .int), Cond.methodLink RX7 45 yX7_isFlange, Cond.instanceMethod yX7_isFlange, Cond.selects RX7 yX7_isFlange yX7_isFlange, Cond.code yX7_isFlange cX7_isFlange 2 (some .boolean), Cond.methodLink RX7 67 yX7_lay, Cond.instanceMethod yX7_lay, Cond.selects RX7 yX7_lay yX7_lay, Cond.code yX7_lay cX7_lay 4 none, Cond.fieldLink RX7 56 "BendOrdersModel" "points" "I", Cond.methodLink RX7 59 yX7_laySide, Cond.instanceMethod yX7_laySide, Cond.selects RX7 yX7_laySide yX7_laySide, Cond.code yX7_laySide cX7_laySide 12 none, Cond.fieldLink RX7 22 "BendOrdersModel" "x" "[I", Cond.fieldLink RX7 25 "BendOrdersModel" "y" "[I"]
def wsX7_follow_r3 : List Cond := [Cond.fieldLink RX7 28 "BendOrdersModel" "of" "[I", Cond.methodLink RX7 71 yX7_strike, Cond.instanceMethod yX7_strike, Cond.selects RX7 yX7_strike yX7_strike, Cond.code yX7_strike cX7_strike 5 (some .int), Cond.methodLink RX7 75 yX7_swing, Cond.instanceMethod yX7_swing, Cond.selects RX7 yX7_swing yX7_swing, Cond.code yX7_swing cX7_swing 4 none, Cond.methodLink RX7 79 yX7_strikesItself, Cond.instanceMethod yX7_strikesItself, Cond.selects RX7 yX7_strikesItself yX7_strikesItself, Cond.code yX7_strikesItself cX7_strikesItself 4 (some .boolean), Cond.methodLink RX7 94 yX7_countOrders, Cond.instanceMethod yX7_countOrders, Cond.selects RX7 yX7_countOrders yX7_countOrders, Cond.code yX7_countOrders cX7_countOrders 6 (some .int), Cond.fieldLink RX7 34 "BendOrdersModel" "ways" "[I", Cond.methodLink RX7 104 yX7_know, Cond.instanceMethod yX7_know, Cond.selects RX7 yX7_know yX7_know, Cond.code yX7_know cX7_know 2 none, Cond.fieldLink RX7 41 "BendOrdersModel" "known" "I", Cond.fieldLink RX7 13 "BendOrdersModel" "before" "[I"]
def wsX7_follow_r4 : List Cond := [Cond.methodLink RX7 100 yX7_nextOf, Cond.instanceMethod yX7_nextOf, Cond.selects RX7 yX7_nextOf yX7_nextOf, Cond.code yX7_nextOf cX7_nextOf 3 (some .int), Cond.methodLink RX7 116 yX7_does, Cond.instanceMethod yX7_does, Cond.selects RX7 yX7_does yX7_does, Cond.code yX7_does cX7_does 2 (some .int), Cond.methodLink RX7 113 yX7_many, Cond.static yX7_many, Cond.code yX7_many cX7_many 3 (some .int)]
def wsX7_follow : List Cond := .code yX7_follow cX7_follow 5 (some .int) :: ((wsX7_follow_r1 ++ (wsX7_follow_r2 ++ (wsX7_follow_r3 ++ wsX7_follow_r4))) ++ wsX70)
def wsX7_type : List Cond := .code yX7_type cX7_type 2 (some .int) :: ([.fieldLink RX7 119 "BendOrdersModel" "typed" "I", .fieldLink RX7 19 "BendOrdersModel" "text" "[I"] ++ wsX70)
def wsX7_clearText : List Cond := .code yX7_clearText cX7_clearText 2 (some .int) :: ([.fieldLink RX7 119 "BendOrdersModel" "typed" "I"] ++ wsX70)
def wsX7_fault : List Cond := .code yX7_fault cX7_fault 3 (some .int) :: ([.fieldLink RX7 119 "BendOrdersModel" "typed" "I", .fieldLink RX7 19 "BendOrdersModel" "text" "[I", .methodLink RX7 37 yX7_in, .static yX7_in, .initialized RX7, .code yX7_in cX7_in 3 (some .boolean)] ++ wsX70)
def wsX7_takeStrip : List Cond := .code yX7_takeStrip cX7_takeStrip 3 (some .int) :: ([.fieldLink RX7 7 "BendOrdersModel" "s" "[I", .fieldLink RX7 119 "BendOrdersModel" "typed" "I", .fieldLink RX7 19 "BendOrdersModel" "text" "[I", .methodLink RX7 122 yX7_fault, .instanceMethod yX7_fault, .selects RX7 yX7_fault yX7_fault, .initialized RX7, .code yX7_fault cX7_fault 3 (some .int), .methodLink RX7 37 yX7_in, .static yX7_in, .code yX7_in cX7_in 3 (some .boolean), .methodLink RX7 104 yX7_know, .instanceMethod yX7_know, .selects RX7 yX7_know yX7_know, .code yX7_know cX7_know 2 none, .fieldLink RX7 41 "BendOrdersModel" "known" "I", .fieldLink RX7 13 "BendOrdersModel" "before" "[I"] ++ wsX70)
def wsX7_undo : List Cond := .code yX7_undo cX7_undo 2 (some .int) :: ([.fieldLink RX7 41 "BendOrdersModel" "known" "I", .fieldLink RX7 7 "BendOrdersModel" "s" "[I", .fieldLink RX7 13 "BendOrdersModel" "before" "[I"] ++ wsX70)
def wsX7_keep : List Cond := .code yX7_keep cX7_keep 2 (some .int) :: ([.fieldLink RX7 16 "BendOrdersModel" "kept" "[I", .fieldLink RX7 7 "BendOrdersModel" "s" "[I", .fieldLink RX7 125 "BendOrdersModel" "isKept" "Z", .methodLink RX7 113 yX7_many, .static yX7_many, .initialized RX7, .code yX7_many cX7_many 3 (some .int)] ++ wsX70)
def wsX7_restore : List Cond := .code yX7_restore cX7_restore 2 (some .int) :: ([.fieldLink RX7 125 "BendOrdersModel" "isKept" "Z", .fieldLink RX7 7 "BendOrdersModel" "s" "[I", .fieldLink RX7 16 "BendOrdersModel" "kept" "[I", .methodLink RX7 104 yX7_know, .instanceMethod yX7_know, .selects RX7 yX7_know yX7_know, .initialized RX7, .code yX7_know cX7_know 2 none, .fieldLink RX7 41 "BendOrdersModel" "known" "I", .fieldLink RX7 13 "BendOrdersModel" "before" "[I", .methodLink RX7 113 yX7_many, .static yX7_many, .code yX7_many cX7_many 3 (some .int)] ++ wsX70)
def wsX7_degrees : List Cond := .code yX7_degrees cX7_degrees 3 (some .int) :: ([.fieldLink RX7 7 "BendOrdersModel" "s" "[I"] ++ wsX70)
def wsX7_ofBend_r1 : List Cond := [Cond.fieldLink RX7 7 "BendOrdersModel" "s" "[I", Cond.methodLink RX7 110 yX7_isBend, Cond.instanceMethod yX7_isBend, Cond.selects RX7 yX7_isBend yX7_isBend, Cond.initialized RX7, Cond.code yX7_isBend cX7_isBend 2 (some .boolean), Cond.methodLink RX7 37 yX7_in, Cond.static yX7_in, Cond.code yX7_in cX7_in 3 (some .boolean), Cond.methodLink RX7 49 yX7_has, Cond.static yX7_has, Cond.code yX7_has cX7_has 2 (some .boolean), Cond.methodLink RX7 87 yX7_reason, Cond.instanceMethod yX7_reason, Cond.selects RX7 yX7_reason yX7_reason, Cond.code yX7_reason cX7_reason 6 (some .int), Cond.methodLink RX7 53 yX7_isUp, Cond.instanceMethod yX7_isUp, Cond.selects RX7 yX7_isUp yX7_isUp, Cond.code yX7_isUp cX7_isUp 3 (some .boolean), Cond.methodLink RX7 63 yX7_clamped, Cond.instanceMethod yX7_clamped, Cond.selects RX7 yX7_clamped yX7_clamped, Cond.code yX7_clamped cX7_clamped 5 (some .int)]
def wsX7_ofBend_r2 : List Cond := [Cond.methodLink RX7 45 yX7_isFlange, Cond.instanceMethod yX7_isFlange, Cond.selects RX7 yX7_isFlange yX7_isFlange, Cond.code yX7_isFlange cX7_isFlange 2 (some .boolean), Cond.methodLink RX7 67 yX7_lay, Cond.instanceMethod yX7_lay, Cond.selects RX7 yX7_lay yX7_lay, Cond.code yX7_lay cX7_lay 4 none, Cond.fieldLink RX7 56 "BendOrdersModel" "points" "I", Cond.methodLink RX7 59 yX7_laySide, Cond.instanceMethod yX7_laySide, Cond.selects RX7 yX7_laySide yX7_laySide, Cond.code yX7_laySide cX7_laySide 12 none, Cond.fieldLink RX7 22 "BendOrdersModel" "x" "[I", Cond.fieldLink RX7 25 "BendOrdersModel" "y" "[I", Cond.fieldLink RX7 28 "BendOrdersModel" "of" "[I", Cond.methodLink RX7 71 yX7_strike, Cond.instanceMethod yX7_strike, Cond.selects RX7 yX7_strike yX7_strike, Cond.code yX7_strike cX7_strike 5 (some .int), Cond.methodLink RX7 75 yX7_swing, Cond.instanceMethod yX7_swing, Cond.selects RX7 yX7_swing yX7_swing, Cond.code yX7_swing cX7_swing 4 none]
def wsX7_ofBend_r3 : List Cond := [Cond.methodLink RX7 79 yX7_strikesItself, Cond.instanceMethod yX7_strikesItself, Cond.selects RX7 yX7_strikesItself yX7_strikesItself, Cond.code yX7_strikesItself cX7_strikesItself 4 (some .boolean), Cond.methodLink RX7 129 yX7_degrees, Cond.instanceMethod yX7_degrees, Cond.selects RX7 yX7_degrees yX7_degrees, Cond.code yX7_degrees cX7_degrees 3 (some .int)]
def wsX7_ofBend : List Cond := .code yX7_ofBend cX7_ofBend 3 (some .int) :: ((wsX7_ofBend_r1 ++ (wsX7_ofBend_r2 ++ wsX7_ofBend_r3)) ++ wsX70)
def wsX7_lengthOf : List Cond := .code yX7_lengthOf cX7_lengthOf 2 (some .int) :: ([.fieldLink RX7 7 "BendOrdersModel" "s" "[I", .methodLink RX7 45 yX7_isFlange, .instanceMethod yX7_isFlange, .selects RX7 yX7_isFlange yX7_isFlange, .initialized RX7, .code yX7_isFlange cX7_isFlange 2 (some .boolean), .methodLink RX7 37 yX7_in, .static yX7_in, .code yX7_in cX7_in 3 (some .boolean)] ++ wsX70)
def wsX7_end_r1 : List Cond := [Cond.fieldLink RX7 7 "BendOrdersModel" "s" "[I", Cond.fieldLink RX7 56 "BendOrdersModel" "points" "I", Cond.fieldLink RX7 28 "BendOrdersModel" "of" "[I", Cond.fieldLink RX7 25 "BendOrdersModel" "y" "[I", Cond.fieldLink RX7 22 "BendOrdersModel" "x" "[I", Cond.methodLink RX7 110 yX7_isBend, Cond.instanceMethod yX7_isBend, Cond.selects RX7 yX7_isBend yX7_isBend, Cond.initialized RX7, Cond.code yX7_isBend cX7_isBend 2 (some .boolean), Cond.methodLink RX7 37 yX7_in, Cond.static yX7_in, Cond.code yX7_in cX7_in 3 (some .boolean), Cond.methodLink RX7 45 yX7_isFlange, Cond.instanceMethod yX7_isFlange, Cond.selects RX7 yX7_isFlange yX7_isFlange, Cond.code yX7_isFlange cX7_isFlange 2 (some .boolean), Cond.methodLink RX7 67 yX7_lay, Cond.instanceMethod yX7_lay, Cond.selects RX7 yX7_lay yX7_lay, Cond.code yX7_lay cX7_lay 4 none, Cond.methodLink RX7 59 yX7_laySide, Cond.instanceMethod yX7_laySide, Cond.selects RX7 yX7_laySide yX7_laySide]
def wsX7_end_r2 : List Cond := [Cond.code yX7_laySide cX7_laySide 12 none, Cond.methodLink RX7 49 yX7_has, Cond.static yX7_has, Cond.code yX7_has cX7_has 2 (some .boolean), Cond.methodLink RX7 53 yX7_isUp, Cond.instanceMethod yX7_isUp, Cond.selects RX7 yX7_isUp yX7_isUp, Cond.code yX7_isUp cX7_isUp 3 (some .boolean)]
def wsX7_end : List Cond := .code yX7_end cX7_end 6 (some .int) :: ((wsX7_end_r1 ++ wsX7_end_r2) ++ wsX70)
def wsX7_strikers_r1 : List Cond := [Cond.fieldLink RX7 7 "BendOrdersModel" "s" "[I", Cond.methodLink RX7 110 yX7_isBend, Cond.instanceMethod yX7_isBend, Cond.selects RX7 yX7_isBend yX7_isBend, Cond.initialized RX7, Cond.code yX7_isBend cX7_isBend 2 (some .boolean), Cond.methodLink RX7 37 yX7_in, Cond.static yX7_in, Cond.code yX7_in cX7_in 3 (some .boolean), Cond.methodLink RX7 67 yX7_lay, Cond.instanceMethod yX7_lay, Cond.selects RX7 yX7_lay yX7_lay, Cond.code yX7_lay cX7_lay 4 none, Cond.fieldLink RX7 56 "BendOrdersModel" "points" "I", Cond.methodLink RX7 59 yX7_laySide, Cond.instanceMethod yX7_laySide, Cond.selects RX7 yX7_laySide yX7_laySide, Cond.code yX7_laySide cX7_laySide 12 none, Cond.fieldLink RX7 22 "BendOrdersModel" "x" "[I", Cond.fieldLink RX7 25 "BendOrdersModel" "y" "[I", Cond.fieldLink RX7 28 "BendOrdersModel" "of" "[I", Cond.methodLink RX7 45 yX7_isFlange, Cond.instanceMethod yX7_isFlange, Cond.selects RX7 yX7_isFlange yX7_isFlange]
def wsX7_strikers_r2 : List Cond := [Cond.code yX7_isFlange cX7_isFlange 2 (some .boolean), Cond.methodLink RX7 49 yX7_has, Cond.static yX7_has, Cond.code yX7_has cX7_has 2 (some .boolean), Cond.methodLink RX7 53 yX7_isUp, Cond.instanceMethod yX7_isUp, Cond.selects RX7 yX7_isUp yX7_isUp, Cond.code yX7_isUp cX7_isUp 3 (some .boolean), Cond.methodLink RX7 71 yX7_strike, Cond.instanceMethod yX7_strike, Cond.selects RX7 yX7_strike yX7_strike, Cond.code yX7_strike cX7_strike 5 (some .int), Cond.methodLink RX7 75 yX7_swing, Cond.instanceMethod yX7_swing, Cond.selects RX7 yX7_swing yX7_swing, Cond.code yX7_swing cX7_swing 4 none]
def wsX7_strikers : List Cond := .code yX7_strikers cX7_strikers 3 (some .int) :: ((wsX7_strikers_r1 ++ wsX7_strikers_r2) ++ wsX70)
def wsX7_order_r1 : List Cond := [Cond.fieldLink RX7 7 "BendOrdersModel" "s" "[I", Cond.methodLink RX7 97 yX7_allOrders, Cond.instanceMethod yX7_allOrders, Cond.selects RX7 yX7_allOrders yX7_allOrders, Cond.initialized RX7, Cond.code yX7_allOrders cX7_allOrders 1 (some .int), Cond.methodLink RX7 91 yX7_findNext, Cond.instanceMethod yX7_findNext, Cond.selects RX7 yX7_findNext yX7_findNext, Cond.code yX7_findNext cX7_findNext 3 none, Cond.fieldLink RX7 31 "BendOrdersModel" "next" "[I", Cond.methodLink RX7 83 yX7_all, Cond.instanceMethod yX7_all, Cond.selects RX7 yX7_all yX7_all, Cond.code yX7_all cX7_all 1 (some .int), Cond.methodLink RX7 87 yX7_reason, Cond.instanceMethod yX7_reason, Cond.selects RX7 yX7_reason yX7_reason, Cond.code yX7_reason cX7_reason 6 (some .int), Cond.methodLink RX7 49 yX7_has, Cond.static yX7_has, Cond.code yX7_has cX7_has 2 (some .boolean), Cond.methodLink RX7 53 yX7_isUp, Cond.instanceMethod yX7_isUp]
def wsX7_order_r2 : List Cond := [Cond.selects RX7 yX7_isUp yX7_isUp, Cond.code yX7_isUp cX7_isUp 3 (some .boolean), Cond.methodLink RX7 63 yX7_clamped, Cond.instanceMethod yX7_clamped, Cond.selects RX7 yX7_clamped yX7_clamped, Cond.code yX7_clamped cX7_clamped 5 (some .int), Cond.methodLink RX7 45 yX7_isFlange, Cond.instanceMethod yX7_isFlange, Cond.selects RX7 yX7_isFlange yX7_isFlange, Cond.code yX7_isFlange cX7_isFlange 2 (some .boolean), Cond.methodLink RX7 37 yX7_in, Cond.static yX7_in, Cond.code yX7_in cX7_in 3 (some .boolean), Cond.methodLink RX7 67 yX7_lay, Cond.instanceMethod yX7_lay, Cond.selects RX7 yX7_lay yX7_lay, Cond.code yX7_lay cX7_lay 4 none, Cond.fieldLink RX7 56 "BendOrdersModel" "points" "I", Cond.methodLink RX7 59 yX7_laySide, Cond.instanceMethod yX7_laySide, Cond.selects RX7 yX7_laySide yX7_laySide, Cond.code yX7_laySide cX7_laySide 12 none, Cond.fieldLink RX7 22 "BendOrdersModel" "x" "[I", Cond.fieldLink RX7 25 "BendOrdersModel" "y" "[I"]
def wsX7_order_r3 : List Cond := [Cond.fieldLink RX7 28 "BendOrdersModel" "of" "[I", Cond.methodLink RX7 71 yX7_strike, Cond.instanceMethod yX7_strike, Cond.selects RX7 yX7_strike yX7_strike, Cond.code yX7_strike cX7_strike 5 (some .int), Cond.methodLink RX7 75 yX7_swing, Cond.instanceMethod yX7_swing, Cond.selects RX7 yX7_swing yX7_swing, Cond.code yX7_swing cX7_swing 4 none, Cond.methodLink RX7 79 yX7_strikesItself, Cond.instanceMethod yX7_strikesItself, Cond.selects RX7 yX7_strikesItself yX7_strikesItself, Cond.code yX7_strikesItself cX7_strikesItself 4 (some .boolean), Cond.methodLink RX7 94 yX7_countOrders, Cond.instanceMethod yX7_countOrders, Cond.selects RX7 yX7_countOrders yX7_countOrders, Cond.code yX7_countOrders cX7_countOrders 6 (some .int), Cond.fieldLink RX7 34 "BendOrdersModel" "ways" "[I", Cond.methodLink RX7 100 yX7_nextOf, Cond.instanceMethod yX7_nextOf, Cond.selects RX7 yX7_nextOf yX7_nextOf, Cond.code yX7_nextOf cX7_nextOf 3 (some .int)]
def wsX7_order : List Cond := .code yX7_order cX7_order 5 (some .int) :: ((wsX7_order_r1 ++ (wsX7_order_r2 ++ wsX7_order_r3)) ++ wsX70)
def wsX7_orders_r1 : List Cond := [Cond.methodLink RX7 97 yX7_allOrders, Cond.instanceMethod yX7_allOrders, Cond.selects RX7 yX7_allOrders yX7_allOrders, Cond.initialized RX7, Cond.code yX7_allOrders cX7_allOrders 1 (some .int), Cond.methodLink RX7 91 yX7_findNext, Cond.instanceMethod yX7_findNext, Cond.selects RX7 yX7_findNext yX7_findNext, Cond.code yX7_findNext cX7_findNext 3 none, Cond.fieldLink RX7 31 "BendOrdersModel" "next" "[I", Cond.fieldLink RX7 7 "BendOrdersModel" "s" "[I", Cond.methodLink RX7 83 yX7_all, Cond.instanceMethod yX7_all, Cond.selects RX7 yX7_all yX7_all, Cond.code yX7_all cX7_all 1 (some .int), Cond.methodLink RX7 87 yX7_reason, Cond.instanceMethod yX7_reason, Cond.selects RX7 yX7_reason yX7_reason, Cond.code yX7_reason cX7_reason 6 (some .int), Cond.methodLink RX7 49 yX7_has, Cond.static yX7_has, Cond.code yX7_has cX7_has 2 (some .boolean), Cond.methodLink RX7 53 yX7_isUp, Cond.instanceMethod yX7_isUp]
def wsX7_orders_r2 : List Cond := [Cond.selects RX7 yX7_isUp yX7_isUp, Cond.code yX7_isUp cX7_isUp 3 (some .boolean), Cond.methodLink RX7 63 yX7_clamped, Cond.instanceMethod yX7_clamped, Cond.selects RX7 yX7_clamped yX7_clamped, Cond.code yX7_clamped cX7_clamped 5 (some .int), Cond.methodLink RX7 45 yX7_isFlange, Cond.instanceMethod yX7_isFlange, Cond.selects RX7 yX7_isFlange yX7_isFlange, Cond.code yX7_isFlange cX7_isFlange 2 (some .boolean), Cond.methodLink RX7 37 yX7_in, Cond.static yX7_in, Cond.code yX7_in cX7_in 3 (some .boolean), Cond.methodLink RX7 67 yX7_lay, Cond.instanceMethod yX7_lay, Cond.selects RX7 yX7_lay yX7_lay, Cond.code yX7_lay cX7_lay 4 none, Cond.fieldLink RX7 56 "BendOrdersModel" "points" "I", Cond.methodLink RX7 59 yX7_laySide, Cond.instanceMethod yX7_laySide, Cond.selects RX7 yX7_laySide yX7_laySide, Cond.code yX7_laySide cX7_laySide 12 none, Cond.fieldLink RX7 22 "BendOrdersModel" "x" "[I", Cond.fieldLink RX7 25 "BendOrdersModel" "y" "[I"]
def wsX7_orders_r3 : List Cond := [Cond.fieldLink RX7 28 "BendOrdersModel" "of" "[I", Cond.methodLink RX7 71 yX7_strike, Cond.instanceMethod yX7_strike, Cond.selects RX7 yX7_strike yX7_strike, Cond.code yX7_strike cX7_strike 5 (some .int), Cond.methodLink RX7 75 yX7_swing, Cond.instanceMethod yX7_swing, Cond.selects RX7 yX7_swing yX7_swing, Cond.code yX7_swing cX7_swing 4 none, Cond.methodLink RX7 79 yX7_strikesItself, Cond.instanceMethod yX7_strikesItself, Cond.selects RX7 yX7_strikesItself yX7_strikesItself, Cond.code yX7_strikesItself cX7_strikesItself 4 (some .boolean), Cond.methodLink RX7 94 yX7_countOrders, Cond.instanceMethod yX7_countOrders, Cond.selects RX7 yX7_countOrders yX7_countOrders, Cond.code yX7_countOrders cX7_countOrders 6 (some .int), Cond.fieldLink RX7 34 "BendOrdersModel" "ways" "[I"]
def wsX7_orders : List Cond := .code yX7_orders cX7_orders 1 (some .int) :: ((wsX7_orders_r1 ++ (wsX7_orders_r2 ++ wsX7_orders_r3)) ++ wsX70)
def wsX7_mustWait_r1 : List Cond := [Cond.fieldLink RX7 7 "BendOrdersModel" "s" "[I", Cond.methodLink RX7 110 yX7_isBend, Cond.instanceMethod yX7_isBend, Cond.selects RX7 yX7_isBend yX7_isBend, Cond.initialized RX7, Cond.code yX7_isBend cX7_isBend 2 (some .boolean), Cond.methodLink RX7 37 yX7_in, Cond.static yX7_in, Cond.code yX7_in cX7_in 3 (some .boolean), Cond.methodLink RX7 49 yX7_has, Cond.static yX7_has, Cond.code yX7_has cX7_has 2 (some .boolean), Cond.methodLink RX7 97 yX7_allOrders, Cond.instanceMethod yX7_allOrders, Cond.selects RX7 yX7_allOrders yX7_allOrders, Cond.code yX7_allOrders cX7_allOrders 1 (some .int), Cond.methodLink RX7 91 yX7_findNext, Cond.instanceMethod yX7_findNext, Cond.selects RX7 yX7_findNext yX7_findNext, Cond.code yX7_findNext cX7_findNext 3 none, Cond.fieldLink RX7 31 "BendOrdersModel" "next" "[I", Cond.methodLink RX7 83 yX7_all, Cond.instanceMethod yX7_all, Cond.selects RX7 yX7_all yX7_all]
def wsX7_mustWait_r2 : List Cond := [Cond.code yX7_all cX7_all 1 (some .int), Cond.methodLink RX7 87 yX7_reason, Cond.instanceMethod yX7_reason, Cond.selects RX7 yX7_reason yX7_reason, Cond.code yX7_reason cX7_reason 6 (some .int), Cond.methodLink RX7 53 yX7_isUp, Cond.instanceMethod yX7_isUp, Cond.selects RX7 yX7_isUp yX7_isUp, Cond.code yX7_isUp cX7_isUp 3 (some .boolean), Cond.methodLink RX7 63 yX7_clamped, Cond.instanceMethod yX7_clamped, Cond.selects RX7 yX7_clamped yX7_clamped, Cond.code yX7_clamped cX7_clamped 5 (some .int), Cond.methodLink RX7 45 yX7_isFlange, Cond.instanceMethod yX7_isFlange, Cond.selects RX7 yX7_isFlange yX7_isFlange, Cond.code yX7_isFlange cX7_isFlange 2 (some .boolean), Cond.methodLink RX7 67 yX7_lay, Cond.instanceMethod yX7_lay, Cond.selects RX7 yX7_lay yX7_lay, Cond.code yX7_lay cX7_lay 4 none, Cond.fieldLink RX7 56 "BendOrdersModel" "points" "I", Cond.methodLink RX7 59 yX7_laySide, Cond.instanceMethod yX7_laySide]
def wsX7_mustWait_r3 : List Cond := [Cond.selects RX7 yX7_laySide yX7_laySide, Cond.code yX7_laySide cX7_laySide 12 none, Cond.fieldLink RX7 22 "BendOrdersModel" "x" "[I", Cond.fieldLink RX7 25 "BendOrdersModel" "y" "[I", Cond.fieldLink RX7 28 "BendOrdersModel" "of" "[I", Cond.methodLink RX7 71 yX7_strike, Cond.instanceMethod yX7_strike, Cond.selects RX7 yX7_strike yX7_strike, Cond.code yX7_strike cX7_strike 5 (some .int), Cond.methodLink RX7 75 yX7_swing, Cond.instanceMethod yX7_swing, Cond.selects RX7 yX7_swing yX7_swing, Cond.code yX7_swing cX7_swing 4 none, Cond.methodLink RX7 79 yX7_strikesItself, Cond.instanceMethod yX7_strikesItself, Cond.selects RX7 yX7_strikesItself yX7_strikesItself, Cond.code yX7_strikesItself cX7_strikesItself 4 (some .boolean), Cond.methodLink RX7 94 yX7_countOrders, Cond.instanceMethod yX7_countOrders, Cond.selects RX7 yX7_countOrders yX7_countOrders, Cond.code yX7_countOrders cX7_countOrders 6 (some .int), Cond.fieldLink RX7 34 "BendOrdersModel" "ways" "[I"]
def wsX7_mustWait : List Cond := .code yX7_mustWait cX7_mustWait 3 (some .int) :: ((wsX7_mustWait_r1 ++ (wsX7_mustWait_r2 ++ wsX7_mustWait_r3)) ++ wsX70)
def wsX7_canNow_r1 : List Cond := [Cond.fieldLink RX7 7 "BendOrdersModel" "s" "[I", Cond.methodLink RX7 87 yX7_reason, Cond.instanceMethod yX7_reason, Cond.selects RX7 yX7_reason yX7_reason, Cond.initialized RX7, Cond.code yX7_reason cX7_reason 6 (some .int), Cond.methodLink RX7 49 yX7_has, Cond.static yX7_has, Cond.code yX7_has cX7_has 2 (some .boolean), Cond.methodLink RX7 53 yX7_isUp, Cond.instanceMethod yX7_isUp, Cond.selects RX7 yX7_isUp yX7_isUp, Cond.code yX7_isUp cX7_isUp 3 (some .boolean), Cond.methodLink RX7 63 yX7_clamped, Cond.instanceMethod yX7_clamped, Cond.selects RX7 yX7_clamped yX7_clamped, Cond.code yX7_clamped cX7_clamped 5 (some .int), Cond.methodLink RX7 45 yX7_isFlange, Cond.instanceMethod yX7_isFlange, Cond.selects RX7 yX7_isFlange yX7_isFlange, Cond.code yX7_isFlange cX7_isFlange 2 (some .boolean), Cond.methodLink RX7 37 yX7_in, Cond.static yX7_in, Cond.code yX7_in cX7_in 3 (some .boolean)]
def wsX7_canNow_r2 : List Cond := [Cond.methodLink RX7 67 yX7_lay, Cond.instanceMethod yX7_lay, Cond.selects RX7 yX7_lay yX7_lay, Cond.code yX7_lay cX7_lay 4 none, Cond.fieldLink RX7 56 "BendOrdersModel" "points" "I", Cond.methodLink RX7 59 yX7_laySide, Cond.instanceMethod yX7_laySide, Cond.selects RX7 yX7_laySide yX7_laySide, Cond.code yX7_laySide cX7_laySide 12 none, Cond.fieldLink RX7 22 "BendOrdersModel" "x" "[I", Cond.fieldLink RX7 25 "BendOrdersModel" "y" "[I", Cond.fieldLink RX7 28 "BendOrdersModel" "of" "[I", Cond.methodLink RX7 71 yX7_strike, Cond.instanceMethod yX7_strike, Cond.selects RX7 yX7_strike yX7_strike, Cond.code yX7_strike cX7_strike 5 (some .int), Cond.methodLink RX7 75 yX7_swing, Cond.instanceMethod yX7_swing, Cond.selects RX7 yX7_swing yX7_swing, Cond.code yX7_swing cX7_swing 4 none, Cond.methodLink RX7 79 yX7_strikesItself, Cond.instanceMethod yX7_strikesItself, Cond.selects RX7 yX7_strikesItself yX7_strikesItself, Cond.code yX7_strikesItself cX7_strikesItself 4 (some .boolean)]
def wsX7_canNow : List Cond := .code yX7_canNow cX7_canNow 3 (some .int) :: ((wsX7_canNow_r1 ++ wsX7_canNow_r2) ++ wsX70)
def wsX7_wholeLength : List Cond := .code yX7_wholeLength cX7_wholeLength 3 (some .int) :: ([.fieldLink RX7 7 "BendOrdersModel" "s" "[I"] ++ wsX70)
def wsX7_count_r1 : List Cond := [Cond.fieldLink RX7 7 "BendOrdersModel" "s" "[I", Cond.fieldLink RX7 41 "BendOrdersModel" "known" "I", Cond.fieldLink RX7 119 "BendOrdersModel" "typed" "I", Cond.methodLink RX7 113 yX7_many, Cond.static yX7_many, Cond.initialized RX7, Cond.code yX7_many cX7_many 3 (some .int), Cond.methodLink RX7 97 yX7_allOrders, Cond.instanceMethod yX7_allOrders, Cond.selects RX7 yX7_allOrders yX7_allOrders, Cond.code yX7_allOrders cX7_allOrders 1 (some .int), Cond.methodLink RX7 91 yX7_findNext, Cond.instanceMethod yX7_findNext, Cond.selects RX7 yX7_findNext yX7_findNext, Cond.code yX7_findNext cX7_findNext 3 none, Cond.fieldLink RX7 31 "BendOrdersModel" "next" "[I", Cond.methodLink RX7 83 yX7_all, Cond.instanceMethod yX7_all, Cond.selects RX7 yX7_all yX7_all, Cond.code yX7_all cX7_all 1 (some .int), Cond.methodLink RX7 87 yX7_reason, Cond.instanceMethod yX7_reason, Cond.selects RX7 yX7_reason yX7_reason, Cond.code yX7_reason cX7_reason 6 (some .int)]
def wsX7_count_r2 : List Cond := [Cond.methodLink RX7 49 yX7_has, Cond.static yX7_has, Cond.code yX7_has cX7_has 2 (some .boolean), Cond.methodLink RX7 53 yX7_isUp, Cond.instanceMethod yX7_isUp, Cond.selects RX7 yX7_isUp yX7_isUp, Cond.code yX7_isUp cX7_isUp 3 (some .boolean), Cond.methodLink RX7 63 yX7_clamped, Cond.instanceMethod yX7_clamped, Cond.selects RX7 yX7_clamped yX7_clamped, Cond.code yX7_clamped cX7_clamped 5 (some .int), Cond.methodLink RX7 45 yX7_isFlange, Cond.instanceMethod yX7_isFlange, Cond.selects RX7 yX7_isFlange yX7_isFlange, Cond.code yX7_isFlange cX7_isFlange 2 (some .boolean), Cond.methodLink RX7 37 yX7_in, Cond.static yX7_in, Cond.code yX7_in cX7_in 3 (some .boolean), Cond.methodLink RX7 67 yX7_lay, Cond.instanceMethod yX7_lay, Cond.selects RX7 yX7_lay yX7_lay, Cond.code yX7_lay cX7_lay 4 none, Cond.fieldLink RX7 56 "BendOrdersModel" "points" "I", Cond.methodLink RX7 59 yX7_laySide]
def wsX7_count_r3 : List Cond := [Cond.instanceMethod yX7_laySide, Cond.selects RX7 yX7_laySide yX7_laySide, Cond.code yX7_laySide cX7_laySide 12 none, Cond.fieldLink RX7 22 "BendOrdersModel" "x" "[I", Cond.fieldLink RX7 25 "BendOrdersModel" "y" "[I", Cond.fieldLink RX7 28 "BendOrdersModel" "of" "[I", Cond.methodLink RX7 71 yX7_strike, Cond.instanceMethod yX7_strike, Cond.selects RX7 yX7_strike yX7_strike, Cond.code yX7_strike cX7_strike 5 (some .int), Cond.methodLink RX7 75 yX7_swing, Cond.instanceMethod yX7_swing, Cond.selects RX7 yX7_swing yX7_swing, Cond.code yX7_swing cX7_swing 4 none, Cond.methodLink RX7 79 yX7_strikesItself, Cond.instanceMethod yX7_strikesItself, Cond.selects RX7 yX7_strikesItself yX7_strikesItself, Cond.code yX7_strikesItself cX7_strikesItself 4 (some .boolean), Cond.methodLink RX7 94 yX7_countOrders, Cond.instanceMethod yX7_countOrders, Cond.selects RX7 yX7_countOrders yX7_countOrders, Cond.code yX7_countOrders cX7_countOrders 6 (some .int), Cond.fieldLink RX7 34 "BendOrdersModel" "ways" "[I", Cond.methodLink RX7 132 yX7_canNow]
def wsX7_count_r4 : List Cond := [Cond.instanceMethod yX7_canNow, Cond.selects RX7 yX7_canNow yX7_canNow, Cond.code yX7_canNow cX7_canNow 3 (some .int), Cond.methodLink RX7 135 yX7_turnings, Cond.instanceMethod yX7_turnings, Cond.selects RX7 yX7_turnings yX7_turnings, Cond.code yX7_turnings cX7_turnings 5 (some .int), Cond.methodLink RX7 100 yX7_nextOf, Cond.instanceMethod yX7_nextOf, Cond.selects RX7 yX7_nextOf yX7_nextOf, Cond.code yX7_nextOf cX7_nextOf 3 (some .int), Cond.methodLink RX7 138 yX7_wholeLength, Cond.instanceMethod yX7_wholeLength, Cond.selects RX7 yX7_wholeLength yX7_wholeLength, Cond.code yX7_wholeLength cX7_wholeLength 3 (some .int)]
def wsX7_count : List Cond := .code yX7_count cX7_count 2 (some .int) :: ((wsX7_count_r1 ++ (wsX7_count_r2 ++ (wsX7_count_r3 ++ wsX7_count_r4))) ++ wsX70)
def wsJ9_max_7cf53 : List Cond := .code yJ9_max_7cf53 cJ9_max_7cf53 2 (some .int) :: ([])
def wsJ9_min_7cf53 : List Cond := .code yJ9_min_7cf53 cJ9_min_7cf53 2 (some .int) :: ([])
abbrev vwCl : List vw_C := [(RX0, TX0, 2), (RX1, TX1, 6), (RX2, TX2, 1), (RX3, TX3, 11), (RX4, TX4, 7), (RX5, TX5, 2), (RX6, TX6, 7), (RX7, TX7, 13)]
end
section
/-! a world as numbers: cells 0 .. N-1 lie at base .. base+N-1; three static arrays; every method by what holds behind it -/
abbrev KD : Type := (Nat × Nat × Bool) ⊕ (Nat × List (Option (Option Nat)))
abbrev EN : Type := Launch × va_G × (Nat → ClassId) × Nat × (Nat → Nat)
abbrev eL (E : EN) : Launch := E.1
abbrev eD (E : EN) : va_G := E.2.1
abbrev eC (E : EN) : Nat → ClassId := E.2.2.1
abbrev eB (E : EN) : Nat := E.2.2.2.1
abbrev eS (E : EN) : Nat → Nat := E.2.2.2.2
abbrev MI : Type := ByteArray × Nat × Option FieldType × String × MethodName × List Cond
abbrev iW (I : MI) : List Cond := I.2.2.2.2.2
abbrev iY (I : MI) : MethodName := I.2.2.2.2.1
abbrev iO (I : MI) : String := I.2.2.2.1
abbrev PST : Type := Option Value → (Nat → KD) → Nat → (Nat → Nat → Int32) → Prop
def eT (E : EN) : List (ClassId × FieldType) := [(eC E 0, .int), (eC E 1, .char), (eC E 2, .boolean), (eC E 3, .object RX4)]
def aE (E : EN) (r : Nat) : Nat := if r < 1000 then eB E + r else eS E (r - 1000)
def cV (E : EN) (v : Value) : Value := match v with
  | .ref r => .ref (aE E r)
  | .int x => .int x
  | .null => .null
  | w => w
def cL (E : EN) (q : Nat × Value) : Nat × Value := (q.1, cV E q.2)
def cR (E : EN) (x : Int32) : Option Nat := if x < 0 then none else some (aE E x.toNatClampNeg)
def aR (x : Int32) : Value := if x < 0 then .null else .ref x.toNatClampNeg
def aF (f : Nat → Int32) (k : Nat) (x : Option (Option Nat)) : Value := match x with
  | none => .int (f k)
  | some none => .null
  | some (some r) => .ref r
def cK (E : EN) (κ : KD) (f : Nat → Int32) : va_E := match κ with
  | .inl (t, n, false) => .inl (eC E t, n, .inl f)
  | .inl (t, n, true) => .inl (eC E t, n, .inr (.inr (.inr (.inr (fun i => cR E (f i))))))
  | .inr (ci, fk) => .inr (ci, fk.mapIdx (fun k x => cV E (aF f k x)))
def cW (E : EN) (σ : Nat → KD) (N : Nat) (M : Nat → Nat → Int32) : va_W := (List.range N).map (fun k => (aE E k, cK E (σ k) (M k)))
def um (M : Nat → Nat → Int32) (a : Nat) (f : Nat → Int32) : Nat → Nat → Int32 := fun b => if b = a then f else M b
def us (σ : Nat → KD) (a : Nat) (κ : KD) : Nat → KD := fun b => if b = a then κ else σ b
def sv (j k : Nat) : Int32 := match j with
  | 0 => ([6, 1, 1, 3] : List Int32).getD k 0
  | 1 => ([1, 0, 0, 0] : List Int32).getD k 0
  | _ => ([12, 3, 9, 9] : List Int32).getD k 0
def sn (j : Nat) : String := match j with
  | 0 => "FIRST_SETTINGS"
  | 1 => "LEAST_SETTINGS"
  | _ => "MOST_SETTINGS"
def SC (E : EN) (A : Nat → Prop) (U : State) (H : Heap) : Prop :=
  (∀ j, j < 3 → va_Z RX6 (sn j) "[I" (.ref (eS E j)) A U H ∧ va_T .int (eS E j) 4 (fun k => .int (sv j k)) A U H) ∧ va_AO RX4 U ∧ va_Nw (.fieldLinkNest RX4 32 RX6 "FIRST_SETTINGS" "[I" RX6) U
def rmD (d mc ms : Nat) : Room := { frames := d, cells := mc, slots := ms, locals := d * 32 }
def CA (I : MI) (p : Program) (s : State) (m : MethodId) (args : Array Value) (meth : Method) (c : Code) : Prop :=
  p.tables.exec = Jvm.exec ∧ c.code = I.1 ∧ c.maxLocals = I.2.1 ∧ meth.sig.returnType = I.2.2.1 ∧ s.vm.findClass (iO I) = some m.cls ∧ (∀ w ∈ iW I, w.before args s = true) ∧ meth.locks = false ∧ meth.name = (iY I).name
def CB (E : EN) (I : MI) (al : Bool) (s : State) (H : Heap) (locs : List Loc) (A : Nat → Prop) (lsr : Array Slot) (ls : List (Nat × Value)) (σ : Nat → KD) (N : Nat) (M : Nat → Nat → Int32) : Prop :=
  va_K (eD E) vwCl (eT E) s ∧ va_P (eD E) vwCl (cW E σ N M) H ∧ va_D A (cW E σ N M) ∧ va_S A s.heap H locs ∧ (∀ q, s.heap.size ≤ q → A q) ∧ lv_has lsr I.2.1 (ls.map (cL E)) ∧ SC E A s s.heap ∧ N ≤ 1000 ∧ (al = true → H.size = eB E + N)
def QC (E : EN) (al : Bool) (A : Nat → Prop) (Q : PST) : Array Value → State → Outcome → State → Prop := fun _ st oc t =>
  (∃ (r : Option Value) (σ : Nat → KD) (N : Nat) (M : Nat → Nat → Int32), oc = .returned (r.map (cV E)) ∧ Q r σ N M ∧ va_P (eD E) vwCl (cW E σ N M) t.heap ∧ va_K (eD E) vwCl (eT E) t ∧ va_D A (cW E σ N M) ∧ N ≤ 1000 ∧ (al = true → t.heap.size = eB E + N)) ∧ va_F A st t
def WP (E : EN) (I : MI) (d k n : Nat) (al : Bool) (pc : Nat) (ls : List (Nat × Value)) (st : List Value) (σ : Nat → KD) (N : Nat) (M : Nat → Nat → Int32) (Q : PST) : Prop :=
  ∀ (p : Program) (e : Env) (s : State) (m : MethodId) (args : Array Value) (below : List Frame) (meth : Method) (c : Code) (H : Heap) (locs : List Loc) (cells slots mc ms : Nat) (A : Nat → Prop) (lsr : Array Slot),
    CA I p s m args meth c → CB E I al s H locs A lsr ls σ N M → cells + k ≤ mc → slots + n ≤ ms →
    W p (eL E) e (rmD d mc ms) s m args below meth c H locs cells slots (MQ below (QC E al A Q) args s mc ms A) (F0 m pc lsr (st.map (cV E)))
def PRE (E : EN) (σ : Nat → KD) (N : Nat) (M : Nat → Nat → Int32) (sz : Nat) (U : State) : Prop :=
  U.heap.size = sz ∧ va_P (eD E) vwCl (cW E σ N M) U.heap ∧ va_K (eD E) vwCl (eT E) U ∧ va_D (fun _ => True) (cW E σ N M) ∧ SC E (va_A (cW E σ N M) sz) U U.heap ∧ N ≤ 1000
def MW (E : EN) (I : MI) (d k n : Nat) (al : Bool) (av : List Value) (σ : Nat → KD) (N : Nat) (M : Nat → Nat → Int32) (Q : PST) : Prop :=
  ∀ sz : Nat, (al = true → sz = eB E + N) → Met (eL E) (iY I) (iW I) (rmD d k n) (va_Pc (av.map (cV E)) (PRE E σ N M sz)) (QC E al (va_A (cW E σ N M) sz) Q) k n (va_A (cW E σ N M) sz)
theorem aE_lt {E : EN} {r : Nat} (h : r < 1000) : aE E r = eB E + r := if_pos h
theorem cV_cat (E : EN) (v : Value) : (cV E v).category = v.category := by cases v <;> rfl
theorem cat_map (E : EN) (st : List Value) : ((st.map (cV E)).map fun v => v.category) = st.map fun v => v.category := by
  rw [List.map_map]
  exact List.map_congr_left fun v _ => cV_cat E v
theorem cW_get {E : EN} {σ : Nat → KD} {N : Nat} {M : Nat → Nat → Int32} {k : Nat} (h : k < N) : (cW E σ N M)[k]? = some (aE E k, cK E (σ k) (M k)) := by
  simp [cW, h]
theorem cW_len (E : EN) (σ : Nat → KD) (N : Nat) (M : Nat → Nat → Int32) : (cW E σ N M).length = N := by simp [cW]
theorem cW_set {E : EN} {σ : Nat → KD} {N : Nat} {M : Nat → Nat → Int32} {k : Nat} (κ : KD) (f : Nat → Int32) : (cW E σ N M).set k (aE E k, cK E κ f) = cW E (us σ k κ) N (um M k f) := by
  apply List.ext_getElem?
  intro j
  by_cases hj : j < N
  · by_cases h : k = j
    · subst h
      rw [List.getElem?_set_self (by rw [cW_len]; exact hj), cW_get hj]
      simp [us, um]
    · rw [List.getElem?_set_ne h, cW_get hj, cW_get hj]
      simp [us, um, Ne.symm h]
  · rw [List.getElem?_eq_none (by rw [List.length_set, cW_len]; omega), List.getElem?_eq_none (by rw [cW_len]; omega)]
theorem us_same (σ : Nat → KD) (a : Nat) : us σ a (σ a) = σ := by
  funext b
  by_cases h : b = a
  · subst h; simp [us]
  · simp [us, h]
theorem cW_set' {E : EN} {σ : Nat → KD} {N : Nat} {M : Nat → Nat → Int32} {k : Nat} {e : va_E} (f : Nat → Int32) (he : e = cK E (σ k) f) : (cW E σ N M).set k (aE E k, e) = cW E σ N (um M k f) := by
  subst he
  rw [cW_set, us_same]
theorem cW_push (E : EN) (σ : Nat → KD) (N : Nat) (M : Nat → Nat → Int32) (κ : KD) (f : Nat → Int32) : cW E σ N M ++ [(aE E N, cK E κ f)] = cW E (us σ N κ) (N + 1) (um M N f) := by
  unfold cW
  rw [List.range_succ, List.map_append]
  congr 1
  · apply List.map_congr_left
    intro k hk
    have := List.mem_range.mp hk
    have h : k ≠ N := by omega
    simp [us, um, h]
  · simp [us, um]
theorem cL_filter (E : EN) (ls : List (Nat × Value)) (i : Nat) : (ls.map (cL E)).filter (fun q => !(q.1 == i) && !(q.1 + 1 == i && q.2.category == 2)) = (ls.filter (fun q => !(q.1 == i) && !(q.1 + 1 == i && q.2.category == 2))).map (cL E) := by
  rw [List.filter_map]
  congr 1
  apply List.filter_congr
  intro q _
  simp only [Function.comp, cL, cV_cat]
def lst (ls : List (Nat × Value)) (i : Nat) (v : Value) : List (Nat × Value) := (i, v) :: ls.filter (fun q => !(q.1 == i) && !(q.1 + 1 == i && q.2.category == 2))
theorem lc_store {E : EN} {lsr : Array Slot} {nL i : Nat} {v : Value} {ls ls' : List (Nat × Value)} {ks : List Nat} (h : lv_has lsr nL ((i, cV E v) :: (ls.map (cL E)).filter (fun q => !(q.1 == i) && !(q.1 + 1 == i && q.2.category == 2)))) (hl : lv_pick (lst ls i v) ks = ls') : lv_has lsr nL (ls'.map (cL E)) := by
  rw [cL_filter] at h
  refine ⟨h.1, h.2.1, fun q hq => ?_⟩
  obtain ⟨q', hq', rfl⟩ := List.mem_map.mp hq
  rw [← hl] at hq'
  obtain ⟨j, -, hj⟩ := List.mem_filterMap.mp hq'
  have hm : q' ∈ lst ls i v := List.mem_of_getElem? hj
  apply h.2.2
  rcases List.mem_cons.mp hm with rfl | hm
  · exact List.mem_cons_self
  · exact List.mem_cons_of_mem _ (List.mem_map.mpr ⟨q', hm, rfl⟩)
theorem lc_at {E : EN} {lsr : Array Slot} {nL i q : Nat} {v : Value} {ls : List (Nat × Value)} (h : lv_has lsr nL (ls.map (cL E))) (hl : ls[q]? = some (i, v)) : lsr[i]? = some (.val (cV E v)) :=
  lv_at h q (v := cV E v) (by rw [List.getElem?_map, hl]; rfl)
theorem SC.moved {E : EN} {A : Nat → Prop} {u U : State} {H : Heap} (hvm : u.vm.Alike U.vm) (hN : va_Nw (.fieldLinkNest RX4 32 RX6 "FIRST_SETTINGS" "[I" RX6) u → va_Nw (.fieldLinkNest RX4 32 RX6 "FIRST_SETTINGS" "[I" RX6) U) (h : SC E A u H) : SC E A U H :=
  ⟨fun j hj => ⟨(h.1 j hj).1.moved hvm, (h.1 j hj).2.moved hvm⟩, h.2.1.moved hvm, hN h.2.2⟩
theorem SC.narrow {E : EN} {A B : Nat → Prop} {U : State} {H : Heap} (hAB : ∀ q, B q → A q) (h : SC E A U H) : SC E B U H :=
  ⟨fun j hj => ⟨(h.1 j hj).1.narrow hAB, (h.1 j hj).2.narrow hAB⟩, h.2⟩
theorem SC.kept {E : EN} {A : Nat → Prop} {U : State} {H H1 : Heap} (hq : ∀ a : Nat, a < H.size → ¬ A a → H1[a]? = H[a]?) (h : SC E A U H) : SC E A U H1 :=
  ⟨fun j hj => ⟨(h.1 j hj).1.kept hq, (h.1 j hj).2.kept hq⟩, h.2⟩
theorem cV_st (E : EN) (j : Nat) : cV E (.ref (1000 + j)) = .ref (eS E j) := by
  have h : ¬ 1000 + j < 1000 := Nat.not_lt.mpr (Nat.le_add_right 1000 j)
  show Value.ref (aE E (1000 + j)) = _
  unfold aE
  rw [if_neg h, Nat.add_sub_cancel_left]
section WPR
variable {E : EN} {I : MI} {d k n : Nat} {al : Bool} {pc : Nat} {ls : List (Nat × Value)} {st : List Value} {σ : Nat → KD} {N : Nat} {M : Nat → Nat → Int32} {Q : PST}

theorem wp_iconst {z : Int} {v : Int32} (hd : decode I.1 pc = .ok (.iconst z, 1)) (hv : Int32.ofInt z = v) (h : WP E I d k n al (pc + 1) ls (.int v :: st) σ N M Q) : WP E I d k n al pc ls (st) σ N M Q := fun p e s m args below meth c H locs cells slots mc ms A lsr a b c1 c2 => lv_iconst a.1 a.2.1 hd hv (h p e s m args below meth c H locs cells slots mc ms A lsr a b c1 c2)
theorem wp_bipush {z : Int} {v : Int32} (hd : decode I.1 pc = .ok (.bipush z, 2)) (hv : (Int8.ofInt z).toInt32 = v) (h : WP E I d k n al (pc + 2) ls (.int v :: st) σ N M Q) : WP E I d k n al pc ls (st) σ N M Q := fun p e s m args below meth c H locs cells slots mc ms A lsr a b c1 c2 => lv_bipush a.1 a.2.1 hd hv (h p e s m args below meth c H locs cells slots mc ms A lsr a b c1 c2)
theorem wp_sipush {z : Int} {v : Int32} (hd : decode I.1 pc = .ok (.sipush z, 3)) (hv : (Int16.ofInt z).toInt32 = v) (h : WP E I d k n al (pc + 3) ls (.int v :: st) σ N M Q) : WP E I d k n al pc ls (st) σ N M Q := fun p e s m args below meth c H locs cells slots mc ms A lsr a b c1 c2 => lv_sipush a.1 a.2.1 hd hv (h p e s m args below meth c H locs cells slots mc ms A lsr a b c1 c2)
theorem wp_null  (hd : decode I.1 pc = .ok (.aconst_null, 1))  (h : WP E I d k n al (pc + 1) ls (.null :: st) σ N M Q) : WP E I d k n al pc ls (st) σ N M Q := fun p e s m args below meth c H locs cells slots mc ms A lsr a b c1 c2 => lv_null a.1 a.2.1 hd (h p e s m args below meth c H locs cells slots mc ms A lsr a b c1 c2)
theorem wp_ldcw {j : Nat} {v : Int32} (hw : Jvm.Cond.constant (iO I) j v ∈ iW I) (hd : decode I.1 pc = .ok (.ldc_w j, 3)) (h : WP E I d k n al (pc + 3) ls (.int v :: st) σ N M Q) : WP E I d k n al pc ls st σ N M Q := fun p e s m args below meth c H locs cells slots mc ms A lsr a b c1 c2 => lv_ldcw a.1 a.2.1 a.2.2.2.2.1 (a.2.2.2.2.2.1 _ hw) hd (h p e s m args below meth c H locs cells slots mc ms A lsr a b c1 c2)
theorem wp_iload_n {i : Fin 4} {x : Int32} (q : Nat) (hd : decode I.1 pc = .ok (.iload_n i, 1)) (hl : ls[q]? = some ((i : Nat), .int x)) (h : WP E I d k n al (pc + 1) ls (.int x :: st) σ N M Q) : WP E I d k n al pc ls st σ N M Q := fun p e s m args below meth c H locs cells slots mc ms A lsr a b c1 c2 => lv_iload_n a.1 a.2.1 hd rfl (lc_at b.2.2.2.2.2.1 hl) (h p e s m args below meth c H locs cells slots mc ms A lsr a b c1 c2)
theorem wp_iload {i : Nat} {x : Int32} (q : Nat) (hd : decode I.1 pc = .ok (.iload i, 2)) (hl : ls[q]? = some (i, .int x)) (h : WP E I d k n al (pc + 2) ls (.int x :: st) σ N M Q) : WP E I d k n al pc ls st σ N M Q := fun p e s m args below meth c H locs cells slots mc ms A lsr a b c1 c2 => lv_iload a.1 a.2.1 hd (lc_at b.2.2.2.2.2.1 hl) (h p e s m args below meth c H locs cells slots mc ms A lsr a b c1 c2)
theorem wp_aload_n {i : Fin 4} {x : Nat} (q : Nat) (hd : decode I.1 pc = .ok (.aload_n i, 1)) (hl : ls[q]? = some ((i : Nat), .ref x)) (h : WP E I d k n al (pc + 1) ls (.ref x :: st) σ N M Q) : WP E I d k n al pc ls st σ N M Q := fun p e s m args below meth c H locs cells slots mc ms A lsr a b c1 c2 => lv_aload_n a.1 a.2.1 hd rfl (lc_at b.2.2.2.2.2.1 hl) (h p e s m args below meth c H locs cells slots mc ms A lsr a b c1 c2)
theorem wp_aload_nN {i : Fin 4} (q : Nat) (hd : decode I.1 pc = .ok (.aload_n i, 1)) (hl : ls[q]? = some ((i : Nat), .null)) (h : WP E I d k n al (pc + 1) ls (.null :: st) σ N M Q) : WP E I d k n al pc ls st σ N M Q := fun p e s m args below meth c H locs cells slots mc ms A lsr a b c1 c2 => lv_aload_nN a.1 a.2.1 hd rfl (lc_at b.2.2.2.2.2.1 hl) (h p e s m args below meth c H locs cells slots mc ms A lsr a b c1 c2)
theorem wp_istore_n {i : Fin 4} {x : Int32} {ls' : List (Nat × Value)} (ks : List Nat) (hd : decode I.1 pc = .ok (.istore_n i, 1)) (hl : lv_pick (lst ls (i : Nat) (.int x)) ks = ls') (hn : (i : Nat) < I.2.1) (h : WP E I d k n al (pc + 1) ls' st σ N M Q) : WP E I d k n al pc ls (.int x :: st) σ N M Q := fun p e s m args below meth c H locs cells slots mc ms A lsr a b c1 c2 => lv_istore_n a.1 a.2.1 hd rfl b.2.2.2.2.2.1 hn rfl (fun ls2 hl2 => h p e s m args below meth c H locs cells slots mc ms A ls2 a ⟨b.1, b.2.1, b.2.2.1, b.2.2.2.1, b.2.2.2.2.1, lc_store hl2 hl, b.2.2.2.2.2.2⟩ c1 c2)
theorem wp_istore {i : Nat} {x : Int32} {ls' : List (Nat × Value)} (ks : List Nat) (hd : decode I.1 pc = .ok (.istore i, 2)) (hl : lv_pick (lst ls i (.int x)) ks = ls') (hn : i < I.2.1) (h : WP E I d k n al (pc + 2) ls' st σ N M Q) : WP E I d k n al pc ls (.int x :: st) σ N M Q := fun p e s m args below meth c H locs cells slots mc ms A lsr a b c1 c2 => lv_istore a.1 a.2.1 hd b.2.2.2.2.2.1 hn rfl (fun ls2 hl2 => h p e s m args below meth c H locs cells slots mc ms A ls2 a ⟨b.1, b.2.1, b.2.2.1, b.2.2.2.1, b.2.2.2.2.1, lc_store hl2 hl, b.2.2.2.2.2.2⟩ c1 c2)
theorem wp_astore_n {i : Fin 4} {x : Nat} {ls' : List (Nat × Value)} (ks : List Nat) (hd : decode I.1 pc = .ok (.astore_n i, 1)) (hl : lv_pick (lst ls (i : Nat) (.ref x)) ks = ls') (hn : (i : Nat) < I.2.1) (h : WP E I d k n al (pc + 1) ls' st σ N M Q) : WP E I d k n al pc ls (.ref x :: st) σ N M Q := fun p e s m args below meth c H locs cells slots mc ms A lsr a b c1 c2 => lv_astore_n a.1 a.2.1 hd rfl b.2.2.2.2.2.1 hn rfl (fun ls2 hl2 => h p e s m args below meth c H locs cells slots mc ms A ls2 a ⟨b.1, b.2.1, b.2.2.1, b.2.2.2.1, b.2.2.2.2.1, lc_store hl2 hl, b.2.2.2.2.2.2⟩ c1 c2)
theorem wp_astore_nN {i : Fin 4} {ls' : List (Nat × Value)} (ks : List Nat) (hd : decode I.1 pc = .ok (.astore_n i, 1)) (hl : lv_pick (lst ls (i : Nat) .null) ks = ls') (hn : (i : Nat) < I.2.1) (h : WP E I d k n al (pc + 1) ls' st σ N M Q) : WP E I d k n al pc ls (.null :: st) σ N M Q := fun p e s m args below meth c H locs cells slots mc ms A lsr a b c1 c2 => lv_astore_nN a.1 a.2.1 hd rfl b.2.2.2.2.2.1 hn rfl (fun ls2 hl2 => h p e s m args below meth c H locs cells slots mc ms A ls2 a ⟨b.1, b.2.1, b.2.2.1, b.2.2.2.1, b.2.2.2.2.1, lc_store hl2 hl, b.2.2.2.2.2.2⟩ c1 c2)
theorem wp_iinc {i : Nat} {z : Int} {x v : Int32} {ls' : List (Nat × Value)} (q : Nat) (ks : List Nat) (hd : decode I.1 pc = .ok (.iinc i z, 3)) (hq : ls[q]? = some (i, .int x)) (hv : x + Int32.ofInt z = v) (hl : lv_pick (lst ls i (.int v)) ks = ls') (hn : i < I.2.1) (h : WP E I d k n al (pc + 3) ls' st σ N M Q) : WP E I d k n al pc ls st σ N M Q := fun p e s m args below meth c H locs cells slots mc ms A lsr a b c1 c2 => lv_iinc (v := v) a.1 a.2.1 hd b.2.2.2.2.2.1 (k := q) (by rw [List.getElem?_map, hq]; rfl) hv hn rfl (fun ls2 hl2 => h p e s m args below meth c H locs cells slots mc ms A ls2 a ⟨b.1, b.2.1, b.2.2.1, b.2.2.2.1, b.2.2.2.2.1, lc_store hl2 hl, b.2.2.2.2.2.2⟩ c1 c2)
theorem wp_iadd {x y : Int32} (hd : decode I.1 pc = .ok (.iadd, 1))  (h : WP E I d k n al (pc + 1) ls (.int (x + y) :: st) σ N M Q) : WP E I d k n al pc ls (.int y :: .int x :: st) σ N M Q := fun p e s m args below meth c H locs cells slots mc ms A lsr a b c1 c2 => lv_iadd a.1 a.2.1 hd (h p e s m args below meth c H locs cells slots mc ms A lsr a b c1 c2)
theorem wp_isub {x y : Int32} (hd : decode I.1 pc = .ok (.isub, 1))  (h : WP E I d k n al (pc + 1) ls (.int (x - y) :: st) σ N M Q) : WP E I d k n al pc ls (.int y :: .int x :: st) σ N M Q := fun p e s m args below meth c H locs cells slots mc ms A lsr a b c1 c2 => lv_isub a.1 a.2.1 hd (h p e s m args below meth c H locs cells slots mc ms A lsr a b c1 c2)
theorem wp_imul {x y : Int32} (hd : decode I.1 pc = .ok (.imul, 1))  (h : WP E I d k n al (pc + 1) ls (.int (x * y) :: st) σ N M Q) : WP E I d k n al pc ls (.int y :: .int x :: st) σ N M Q := fun p e s m args below meth c H locs cells slots mc ms A lsr a b c1 c2 => lv_imul a.1 a.2.1 hd (h p e s m args below meth c H locs cells slots mc ms A lsr a b c1 c2)
theorem wp_iand {x y : Int32} (hd : decode I.1 pc = .ok (.iand, 1))  (h : WP E I d k n al (pc + 1) ls (.int (x &&& y) :: st) σ N M Q) : WP E I d k n al pc ls (.int y :: .int x :: st) σ N M Q := fun p e s m args below meth c H locs cells slots mc ms A lsr a b c1 c2 => lv_iand a.1 a.2.1 hd (h p e s m args below meth c H locs cells slots mc ms A lsr a b c1 c2)
theorem wp_ior {x y : Int32} (hd : decode I.1 pc = .ok (.ior, 1))  (h : WP E I d k n al (pc + 1) ls (.int (x ||| y) :: st) σ N M Q) : WP E I d k n al pc ls (.int y :: .int x :: st) σ N M Q := fun p e s m args below meth c H locs cells slots mc ms A lsr a b c1 c2 => lv_ior a.1 a.2.1 hd (h p e s m args below meth c H locs cells slots mc ms A lsr a b c1 c2)
theorem wp_ixor {x y : Int32} (hd : decode I.1 pc = .ok (.ixor, 1))  (h : WP E I d k n al (pc + 1) ls (.int (x ^^^ y) :: st) σ N M Q) : WP E I d k n al pc ls (.int y :: .int x :: st) σ N M Q := fun p e s m args below meth c H locs cells slots mc ms A lsr a b c1 c2 => lv_ixor a.1 a.2.1 hd (h p e s m args below meth c H locs cells slots mc ms A lsr a b c1 c2)
theorem wp_ishl {x y : Int32} (hd : decode I.1 pc = .ok (.ishl, 1))  (h : WP E I d k n al (pc + 1) ls (.int (x <<< (y &&& 31)) :: st) σ N M Q) : WP E I d k n al pc ls (.int y :: .int x :: st) σ N M Q := fun p e s m args below meth c H locs cells slots mc ms A lsr a b c1 c2 => lv_ishl a.1 a.2.1 hd (h p e s m args below meth c H locs cells slots mc ms A lsr a b c1 c2)
theorem wp_ishr {x y : Int32} (hd : decode I.1 pc = .ok (.ishr, 1))  (h : WP E I d k n al (pc + 1) ls (.int (x >>> (y &&& 31)) :: st) σ N M Q) : WP E I d k n al pc ls (.int y :: .int x :: st) σ N M Q := fun p e s m args below meth c H locs cells slots mc ms A lsr a b c1 c2 => lv_ishr a.1 a.2.1 hd (h p e s m args below meth c H locs cells slots mc ms A lsr a b c1 c2)
theorem wp_idiv {x y : Int32} (hd : decode I.1 pc = .ok (.idiv, 1)) (hne : ¬ y = 0) (h : WP E I d k n al (pc + 1) ls (.int (x / y) :: st) σ N M Q) : WP E I d k n al pc ls (.int y :: .int x :: st) σ N M Q := fun p e s m args below meth c H locs cells slots mc ms A lsr a b c1 c2 => lv_idiv a.1 a.2.1 hd hne (h p e s m args below meth c H locs cells slots mc ms A lsr a b c1 c2)
theorem wp_irem {x y : Int32} (hd : decode I.1 pc = .ok (.irem, 1)) (hne : ¬ y = 0) (h : WP E I d k n al (pc + 1) ls (.int (x - x / y * y) :: st) σ N M Q) : WP E I d k n al pc ls (.int y :: .int x :: st) σ N M Q := fun p e s m args below meth c H locs cells slots mc ms A lsr a b c1 c2 => lv_irem a.1 a.2.1 hd hne (h p e s m args below meth c H locs cells slots mc ms A lsr a b c1 c2)
theorem wp_ineg {x : Int32} (hd : decode I.1 pc = .ok (.ineg, 1))  (h : WP E I d k n al (pc + 1) ls (.int (-x) :: st) σ N M Q) : WP E I d k n al pc ls (.int x :: st) σ N M Q := fun p e s m args below meth c H locs cells slots mc ms A lsr a b c1 c2 => lv_ineg a.1 a.2.1 hd (h p e s m args below meth c H locs cells slots mc ms A lsr a b c1 c2)
theorem wp_iushr {x y v : Int32} (hd : decode I.1 pc = .ok (.iushr, 1)) (hv : (x.toUInt32 >>> (y.toUInt32 &&& Int32.toUInt32 31)).toInt32 = v) (h : WP E I d k n al (pc + 1) ls (.int v :: st) σ N M Q) : WP E I d k n al pc ls (.int y :: .int x :: st) σ N M Q := fun p e s m args below meth c H locs cells slots mc ms A lsr a b c1 c2 => lv_iushr a.1 a.2.1 hd hv (h p e s m args below meth c H locs cells slots mc ms A lsr a b c1 c2)
theorem wp_i2c {x v : Int32} (hd : decode I.1 pc = .ok (.i2c, 1)) (hv : (x.toUInt32 % 65536).toInt32 = v) (h : WP E I d k n al (pc + 1) ls (.int v :: st) σ N M Q) : WP E I d k n al pc ls (.int x :: st) σ N M Q := fun p e s m args below meth c H locs cells slots mc ms A lsr a b c1 c2 => lv_i2c a.1 a.2.1 hd hv (h p e s m args below meth c H locs cells slots mc ms A lsr a b c1 c2)
theorem wp_dup {v : Value} (hv : v.category = 1) (hd : decode I.1 pc = .ok (.dup, 1)) (h : WP E I d k n al (pc + 1) ls (v :: v :: st) σ N M Q) : WP E I d k n al pc ls (v :: st) σ N M Q := fun p e s m args below meth c H locs cells slots mc ms A lsr a b c1 c2 => lv_dup a.1 a.2.1 hd (by rw [cV_cat]; exact hv) (h p e s m args below meth c H locs cells slots mc ms A lsr a b c1 c2)
theorem wp_pop {v : Value} (hv : v.category = 1) (hd : decode I.1 pc = .ok (.pop, 1)) (h : WP E I d k n al (pc + 1) ls st σ N M Q) : WP E I d k n al pc ls (v :: st) σ N M Q := fun p e s m args below meth c H locs cells slots mc ms A lsr a b c1 c2 => lv_pop a.1 a.2.1 hd (by rw [cV_cat]; exact hv) (h p e s m args below meth c H locs cells slots mc ms A lsr a b c1 c2)
theorem wp_dup2 {v w : Value} (hv : v.category = 1) (hw : w.category = 1) (hd : decode I.1 pc = .ok (.dup2, 1)) (h : WP E I d k n al (pc + 1) ls (v :: w :: v :: w :: st) σ N M Q) : WP E I d k n al pc ls (v :: w :: st) σ N M Q := fun p e s m args below meth c H locs cells slots mc ms A lsr a b c1 c2 => lv_dup2_11 a.1 a.2.1 hd (by rw [cV_cat]; exact hv) (by rw [cV_cat]; exact hw) (h p e s m args below meth c H locs cells slots mc ms A lsr a b c1 c2)
theorem wp_goto {off : Int} {tgt : Nat} (hd : decode I.1 pc = .ok (.goto off, 3)) (ht : (pc : Int) + off = (tgt : Int)) (h : WP E I d k n al tgt ls st σ N M Q) : WP E I d k n al pc ls st σ N M Q := fun p e s m args below meth c H locs cells slots mc ms A lsr a b c1 c2 => lv_goto a.1 a.2.1 hd ht (h p e s m args below meth c H locs cells slots mc ms A lsr a b c1 c2)
theorem wp_if_eq {x : Int32} {off : Int} {tgt : Nat} (hd : decode I.1 pc = .ok (.ifCond .eq off, 3)) (ht : (pc : Int) + off = (tgt : Int)) (kt : x = 0 → WP E I d k n al tgt ls st σ N M Q) (kf : ¬ x = 0 → WP E I d k n al (pc + 3) ls st σ N M Q) : WP E I d k n al pc ls (.int x :: st) σ N M Q := fun p e s m args below meth c H locs cells slots mc ms A lsr a b c1 c2 => lv_if_eq a.1 a.2.1 hd ht (fun q => kt q p e s m args below meth c H locs cells slots mc ms A lsr a b c1 c2) (fun q => kf q p e s m args below meth c H locs cells slots mc ms A lsr a b c1 c2)
theorem wp_if_ne {x : Int32} {off : Int} {tgt : Nat} (hd : decode I.1 pc = .ok (.ifCond .ne off, 3)) (ht : (pc : Int) + off = (tgt : Int)) (kt : ¬ x = 0 → WP E I d k n al tgt ls st σ N M Q) (kf : x = 0 → WP E I d k n al (pc + 3) ls st σ N M Q) : WP E I d k n al pc ls (.int x :: st) σ N M Q := fun p e s m args below meth c H locs cells slots mc ms A lsr a b c1 c2 => lv_if_ne a.1 a.2.1 hd ht (fun q => kt q p e s m args below meth c H locs cells slots mc ms A lsr a b c1 c2) (fun q => kf q p e s m args below meth c H locs cells slots mc ms A lsr a b c1 c2)
theorem wp_if_lt {x : Int32} {off : Int} {tgt : Nat} (hd : decode I.1 pc = .ok (.ifCond .lt off, 3)) (ht : (pc : Int) + off = (tgt : Int)) (kt : x < 0 → WP E I d k n al tgt ls st σ N M Q) (kf : ¬ x < 0 → WP E I d k n al (pc + 3) ls st σ N M Q) : WP E I d k n al pc ls (.int x :: st) σ N M Q := fun p e s m args below meth c H locs cells slots mc ms A lsr a b c1 c2 => lv_if_lt a.1 a.2.1 hd ht (fun q => kt q p e s m args below meth c H locs cells slots mc ms A lsr a b c1 c2) (fun q => kf q p e s m args below meth c H locs cells slots mc ms A lsr a b c1 c2)
theorem wp_if_ge {x : Int32} {off : Int} {tgt : Nat} (hd : decode I.1 pc = .ok (.ifCond .ge off, 3)) (ht : (pc : Int) + off = (tgt : Int)) (kt : 0 ≤ x → WP E I d k n al tgt ls st σ N M Q) (kf : ¬ 0 ≤ x → WP E I d k n al (pc + 3) ls st σ N M Q) : WP E I d k n al pc ls (.int x :: st) σ N M Q := fun p e s m args below meth c H locs cells slots mc ms A lsr a b c1 c2 => lv_if_ge a.1 a.2.1 hd ht (fun q => kt q p e s m args below meth c H locs cells slots mc ms A lsr a b c1 c2) (fun q => kf q p e s m args below meth c H locs cells slots mc ms A lsr a b c1 c2)
theorem wp_if_gt {x : Int32} {off : Int} {tgt : Nat} (hd : decode I.1 pc = .ok (.ifCond .gt off, 3)) (ht : (pc : Int) + off = (tgt : Int)) (kt : 0 < x → WP E I d k n al tgt ls st σ N M Q) (kf : ¬ 0 < x → WP E I d k n al (pc + 3) ls st σ N M Q) : WP E I d k n al pc ls (.int x :: st) σ N M Q := fun p e s m args below meth c H locs cells slots mc ms A lsr a b c1 c2 => lv_if_gt a.1 a.2.1 hd ht (fun q => kt q p e s m args below meth c H locs cells slots mc ms A lsr a b c1 c2) (fun q => kf q p e s m args below meth c H locs cells slots mc ms A lsr a b c1 c2)
theorem wp_if_le {x : Int32} {off : Int} {tgt : Nat} (hd : decode I.1 pc = .ok (.ifCond .le off, 3)) (ht : (pc : Int) + off = (tgt : Int)) (kt : x ≤ 0 → WP E I d k n al tgt ls st σ N M Q) (kf : ¬ x ≤ 0 → WP E I d k n al (pc + 3) ls st σ N M Q) : WP E I d k n al pc ls (.int x :: st) σ N M Q := fun p e s m args below meth c H locs cells slots mc ms A lsr a b c1 c2 => lv_if_le a.1 a.2.1 hd ht (fun q => kt q p e s m args below meth c H locs cells slots mc ms A lsr a b c1 c2) (fun q => kf q p e s m args below meth c H locs cells slots mc ms A lsr a b c1 c2)
theorem wp_icmp_eq {x y : Int32} {off : Int} {tgt : Nat} (hd : decode I.1 pc = .ok (.if_icmp .eq off, 3)) (ht : (pc : Int) + off = (tgt : Int)) (kt : x = y → WP E I d k n al tgt ls st σ N M Q) (kf : ¬ x = y → WP E I d k n al (pc + 3) ls st σ N M Q) : WP E I d k n al pc ls (.int y :: .int x :: st) σ N M Q := fun p e s m args below meth c H locs cells slots mc ms A lsr a b c1 c2 => lv_icmp_eq a.1 a.2.1 hd ht (fun q => kt q p e s m args below meth c H locs cells slots mc ms A lsr a b c1 c2) (fun q => kf q p e s m args below meth c H locs cells slots mc ms A lsr a b c1 c2)
theorem wp_icmp_ne {x y : Int32} {off : Int} {tgt : Nat} (hd : decode I.1 pc = .ok (.if_icmp .ne off, 3)) (ht : (pc : Int) + off = (tgt : Int)) (kt : ¬ x = y → WP E I d k n al tgt ls st σ N M Q) (kf : x = y → WP E I d k n al (pc + 3) ls st σ N M Q) : WP E I d k n al pc ls (.int y :: .int x :: st) σ N M Q := fun p e s m args below meth c H locs cells slots mc ms A lsr a b c1 c2 => lv_icmp_ne a.1 a.2.1 hd ht (fun q => kt q p e s m args below meth c H locs cells slots mc ms A lsr a b c1 c2) (fun q => kf q p e s m args below meth c H locs cells slots mc ms A lsr a b c1 c2)
theorem wp_icmp_lt {x y : Int32} {off : Int} {tgt : Nat} (hd : decode I.1 pc = .ok (.if_icmp .lt off, 3)) (ht : (pc : Int) + off = (tgt : Int)) (kt : x < y → WP E I d k n al tgt ls st σ N M Q) (kf : ¬ x < y → WP E I d k n al (pc + 3) ls st σ N M Q) : WP E I d k n al pc ls (.int y :: .int x :: st) σ N M Q := fun p e s m args below meth c H locs cells slots mc ms A lsr a b c1 c2 => lv_icmp_lt a.1 a.2.1 hd ht (fun q => kt q p e s m args below meth c H locs cells slots mc ms A lsr a b c1 c2) (fun q => kf q p e s m args below meth c H locs cells slots mc ms A lsr a b c1 c2)
theorem wp_icmp_ge {x y : Int32} {off : Int} {tgt : Nat} (hd : decode I.1 pc = .ok (.if_icmp .ge off, 3)) (ht : (pc : Int) + off = (tgt : Int)) (kt : y ≤ x → WP E I d k n al tgt ls st σ N M Q) (kf : ¬ y ≤ x → WP E I d k n al (pc + 3) ls st σ N M Q) : WP E I d k n al pc ls (.int y :: .int x :: st) σ N M Q := fun p e s m args below meth c H locs cells slots mc ms A lsr a b c1 c2 => lv_icmp_ge a.1 a.2.1 hd ht (fun q => kt q p e s m args below meth c H locs cells slots mc ms A lsr a b c1 c2) (fun q => kf q p e s m args below meth c H locs cells slots mc ms A lsr a b c1 c2)
theorem wp_icmp_gt {x y : Int32} {off : Int} {tgt : Nat} (hd : decode I.1 pc = .ok (.if_icmp .gt off, 3)) (ht : (pc : Int) + off = (tgt : Int)) (kt : y < x → WP E I d k n al tgt ls st σ N M Q) (kf : ¬ y < x → WP E I d k n al (pc + 3) ls st σ N M Q) : WP E I d k n al pc ls (.int y :: .int x :: st) σ N M Q := fun p e s m args below meth c H locs cells slots mc ms A lsr a b c1 c2 => lv_icmp_gt a.1 a.2.1 hd ht (fun q => kt q p e s m args below meth c H locs cells slots mc ms A lsr a b c1 c2) (fun q => kf q p e s m args below meth c H locs cells slots mc ms A lsr a b c1 c2)
theorem wp_icmp_le {x y : Int32} {off : Int} {tgt : Nat} (hd : decode I.1 pc = .ok (.if_icmp .le off, 3)) (ht : (pc : Int) + off = (tgt : Int)) (kt : x ≤ y → WP E I d k n al tgt ls st σ N M Q) (kf : ¬ x ≤ y → WP E I d k n al (pc + 3) ls st σ N M Q) : WP E I d k n al pc ls (.int y :: .int x :: st) σ N M Q := fun p e s m args below meth c H locs cells slots mc ms A lsr a b c1 c2 => lv_icmp_le a.1 a.2.1 hd ht (fun q => kt q p e s m args below meth c H locs cells slots mc ms A lsr a b c1 c2) (fun q => kf q p e s m args below meth c H locs cells slots mc ms A lsr a b c1 c2)
theorem wp_ifnull {x : Nat} {off : Int} (hd : decode I.1 pc = .ok (.ifnull off, 3)) (h : WP E I d k n al (pc + 3) ls st σ N M Q) : WP E I d k n al pc ls (.ref x :: st) σ N M Q := fun p e s m args below meth c H locs cells slots mc ms A lsr a b c1 c2 => lv_ifnull a.1 a.2.1 hd (h p e s m args below meth c H locs cells slots mc ms A lsr a b c1 c2)
theorem wp_ifnullN {off : Int} {tgt : Nat} (hd : decode I.1 pc = .ok (.ifnull off, 3)) (ht : (pc : Int) + off = (tgt : Int)) (h : WP E I d k n al tgt ls st σ N M Q) : WP E I d k n al pc ls (.null :: st) σ N M Q := fun p e s m args below meth c H locs cells slots mc ms A lsr a b c1 c2 => lv_ifnullN a.1 a.2.1 hd ht (h p e s m args below meth c H locs cells slots mc ms A lsr a b c1 c2)
theorem wp_tableIn {dflt lo hi : Int} {offs : Array Int} {len : Nat} {x : Int32} {off : Int} {tgt : Nat} (hd : decode I.1 pc = .ok (.tableswitch dflt lo hi offs, len)) (h1 : ¬ x.toInt < lo) (h2 : ¬ hi < x.toInt) (ho : offs[(x.toInt - lo).toNat]? = some off) (ht : (pc : Int) + off = (tgt : Int)) (h : WP E I d k n al tgt ls st σ N M Q) : WP E I d k n al pc ls (.int x :: st) σ N M Q := fun p e s m args below meth c H locs cells slots mc ms A lsr a b c1 c2 => lv_tableIn a.1 a.2.1 hd h1 h2 ho ht (h p e s m args below meth c H locs cells slots mc ms A lsr a b c1 c2)
theorem wp_tableOut {dflt lo hi : Int} {offs : Array Int} {len : Nat} {x : Int32} {tgt : Nat} (hd : decode I.1 pc = .ok (.tableswitch dflt lo hi offs, len)) (h1 : x.toInt < lo ∨ hi < x.toInt) (ht : (pc : Int) + dflt = (tgt : Int)) (h : WP E I d k n al tgt ls st σ N M Q) : WP E I d k n al pc ls (.int x :: st) σ N M Q := fun p e s m args below meth c H locs cells slots mc ms A lsr a b c1 c2 => lv_tableOut a.1 a.2.1 hd h1 ht (h p e s m args below meth c H locs cells slots mc ms A lsr a b c1 c2)
theorem wp_get {r idx ci Nf : Nat} {fk : List (Option (Option Nat))} {C : String} {T : u_T} {x : Option (Option Nat)} {v : Value} (hd : decode I.1 pc = .ok (.getfield idx, 3)) (hσ : σ r = .inr (ci, fk)) (hr : r < N) (hc : vwCl[ci]? = some (C, T, Nf)) (hin : ∀ w ∈ u_ws C T Nf, w ∈ iW I) (j : Nat) (hj : j < Nf) (hlk : Cond.fieldLink (iO I) idx (T j).1 (T j).2.1 (T j).2.2.1 ∈ iW I) (hf : fk[j]? = some x) (hv : aF (M r) j x = v) (h : WP E I d k n al (pc + 3) ls (v :: st) σ N M Q) : WP E I d k n al pc ls (.ref r :: st) σ N M Q := fun p e s m args below meth c H locs cells slots mc ms A lsr a b c1 c2 => va_get (D := eD E) (cl := vwCl) (ci := ci) (C := C) (T := T) (N := Nf) (a := aE E r) (fs := fk.mapIdx (fun k x => cV E (aF (M r) k x))) (v := cV E v) (ref := (T j).1) (own := iO I) (index := idx) a.1 a.2.1 a.2.2.2.2.2.1 hin a.2.2.2.2.1 b.1 b.2.1 r (by rw [cW_get hr, hσ]; rfl) hc j hj (a.2.2.2.2.2.1 _ hlk) (fun _ h9 => h9) (by rw [List.getElem?_mapIdx, hf, ← hv]; rfl) hd (h p e s m args below meth c H locs cells slots mc ms A lsr a b c1 c2)
theorem mi_set (E : EN) (f : Nat → Int32) (fk : List (Option (Option Nat))) {j : Nat} (hf : fk[j]? = some none) (v : Int32) : (fk.mapIdx (fun k x => cV E (aF f k x))).set j (.int v) = fk.mapIdx (fun k x => cV E (aF (upd f j v) k x)) := by
  apply List.ext_getElem?
  intro i
  have hl : j < fk.length := (List.getElem?_eq_some_iff.mp hf).1
  by_cases h : j = i
  · subst h
    rw [List.getElem?_set_self (by simpa using hl), List.getElem?_mapIdx, hf]
    simp [aF, cV, upd]
  · rw [List.getElem?_set_ne h, List.getElem?_mapIdx, List.getElem?_mapIdx]
    cases hx : fk[i]? with
    | none => rfl
    | some x =>
      have e : upd f j v i = f i := if_neg (Ne.symm h)
      cases x <;> simp [aF, e]
theorem mi_setR (E : EN) (f : Nat → Int32) (fk : List (Option (Option Nat))) {j : Nat} (hl : j < fk.length) (r : Nat) : (fk.mapIdx (fun k x => cV E (aF f k x))).set j (.ref (aE E r)) = (fk.set j (some (some r))).mapIdx (fun k x => cV E (aF f k x)) := by
  apply List.ext_getElem?
  intro i
  by_cases h : j = i
  · subst h
    rw [List.getElem?_set_self (by simpa using hl), List.getElem?_mapIdx, List.getElem?_set_self hl]
    rfl
  · rw [List.getElem?_set_ne h, List.getElem?_mapIdx, List.getElem?_mapIdx, List.getElem?_set_ne h]
theorem um_sz {E : EN} {al : Bool} {H H1 : Heap} {N : Nat} (z : H1.size = H.size) (h : al = true → H.size = eB E + N) : al = true → H1.size = eB E + N := fun q => z.trans (h q)

theorem wp_put {r idx ci Nf : Nat} {fk : List (Option (Option Nat))} {C : String} {T : u_T} {v : Int32} {ty : FieldType} (ty0 : Nat → FieldType) (hty : ∀ k, k < Nf → parseFieldDescriptor (T k).2.2.1 = some (ty0 k)) (hnm : ∀ a, a < Nf → ∀ b, b < Nf → a ≠ b → (T a).2.1 ≠ (T b).2.1) (hσ : σ r = .inr (ci, fk)) (hr : r < N) (hc : vwCl[ci]? = some (C, T, Nf)) (hin : ∀ w ∈ u_ws C T Nf, w ∈ iW I) (j : Nat) (hj : j < Nf) (hlk : Cond.fieldLink (iO I) idx (T j).1 (T j).2.1 (T j).2.2.1 ∈ iW I) (hf : fk[j]? = some none) (hfin : (T j).2.2.2 = false) (hdt : parseFieldDescriptor (T j).2.2.1 = some ty) (hn : narrow ty (.int v) = .int v) (hfit : fits ty (.int v) = true) (hd : decode I.1 pc = .ok (.putfield idx, 3)) (h : ∀ M1, M1 = um M r (upd (M r) j v) → WP E I d k n al (pc + 3) ls st σ N M1 Q) : WP E I d k n al pc ls (.int v :: .ref r :: st) σ N M Q := by
  intro p e s m args below meth c H locs cells slots mc ms A lsr a b c1 c2
  obtain ⟨hx, hb, hml, hret, hown, hts, hlk2, hnam⟩ := id a
  obtain ⟨hK, hP, hD, hS0, hA, hlv, hSC, hN, hsz⟩ := b
  have he : (cW E σ N M)[r]? = some (aE E r, .inr (ci, fk.mapIdx (fun k x => cV E (aF (M r) k x)))) := by rw [cW_get hr, hσ]; rfl
  have hap := va_apart (own := iO I) hts hin ty0 hty hnm hK hc
  obtain ⟨rr, h1, cell, q1, q2, q3, q4⟩ := hP r _ he
  have hr' : rr = (C, T, Nf) := Option.some.inj (h1.symm.trans hc)
  subst hr'
  obtain ⟨hSl, hfc, kC, hkC, hkind⟩ := hK.1 ci _ hc
  obtain ⟨cf, kf, fi, f, hi, hsl⟩ := hSl j hj
  have hlay := hts _ (hin _ (u_in_lay hj))
  unfold u_lay at hlay
  rw [if_neg (by rw [hfin]; decide)] at hlay
  have hst := (u_facts hfc hkC (u_lays hts hin hj) hi).1
  have h6 := u_store hfc hkC hkind hlay hi hdt hn hfit
  refine W.putK hx hb (f := f) ⟨hown, hts _ hlk, ⟨_, _, _, hi⟩, hst⟩ (by rw [q2]; exact h6) q1 q3 (by rw [hsl]; exact k2_hasslot (q4 j hj)) rfl rfl hd fun H' e1 e2 e3 => ?_
  have hl9 : j < (fk.mapIdx (fun k x => cV E (aF (M r) k x))).length := by simpa using (List.getElem?_eq_some_iff.mp hf).1
  rw [hsl] at e1 ⊢
  have hP2 := hP.set hD he (e := .inr (ci, (fk.mapIdx (fun k x => cV E (aF (M r) k x))).set j (.int v))) ⟨_, hc, t_OB.to (V := updV (vp_V (fk.mapIdx (fun k x => cV E (aF (M r) k x)))) j (.int v)) ⟨_, e1, q2, q3, t_set q4 hap hj _⟩ (fun i _ => vp_updV_set hl9 _ i)⟩ e3
  have hD2 := hD.set (e := .inr (ci, (fk.mapIdx (fun k x => cV E (aF (M r) k x))).set j (.int v))) he
  have ew : (cW E σ N M).set r (aE E r, .inr (ci, (fk.mapIdx (fun k x => cV E (aF (M r) k x))).set j (.int v))) = cW E σ N (um M r (upd (M r) j v)) := by
    rw [mi_set E (M r) fk hf v]
    exact cW_set' _ (by rw [hσ]; rfl)
  rw [ew] at hP2 hD2
  exact h _ rfl p e s m args below meth c H' _ cells slots mc ms A lsr a ⟨hK, hP2, hD2, hS0.put e2 e3 (hD.2 r _ he), hA, hlv, hSC, hN, um_sz e2 hsz⟩ c1 c2
theorem wp_putF {r idx ci Nf : Nat} {fk : List (Option (Option Nat))} {C : String} {T : u_T} {r2 : Nat} {ty : FieldType} (ty0 : Nat → FieldType) (hty : ∀ k, k < Nf → parseFieldDescriptor (T k).2.2.1 = some (ty0 k)) (hnm : ∀ a, a < Nf → ∀ b, b < Nf → a ≠ b → (T a).2.1 ≠ (T b).2.1) (hσ : σ r = .inr (ci, fk)) (hr : r < N) (hc : vwCl[ci]? = some (C, T, Nf)) (hin : ∀ w ∈ u_ws C T Nf, w ∈ iW I) (j : Nat) (hj : j < Nf) (hlk : Cond.fieldLink (iO I) idx (T j).1 (T j).2.1 (T j).2.2.1 ∈ iW I) (hl : j < fk.length) (hfin : (T j).2.2.2 = true) (hin2 : (iY I).name = "<init>") (hdecl : (T j).1 = iO I) (hdt : parseFieldDescriptor (T j).2.2.1 = some ty) (hn : ∀ z : Nat, narrow ty (.ref z) = .ref z) (hfit : ∀ z : Nat, fits ty (.ref z) = true) (hd : decode I.1 pc = .ok (.putfield idx, 3)) (h : WP E I d k n al (pc + 3) ls st (us σ r (.inr (ci, fk.set j (some (some r2))))) N M Q) : WP E I d k n al pc ls (.ref r2 :: .ref r :: st) σ N M Q := by
  intro p e s m args below meth c H locs cells slots mc ms A lsr a b c1 c2
  obtain ⟨hx, hb, hml, hret, hown, hts, hlk2, hnam⟩ := id a
  obtain ⟨hK, hP, hD, hS0, hA, hlv, hSC, hN, hsz⟩ := b
  have he : (cW E σ N M)[r]? = some (aE E r, .inr (ci, fk.mapIdx (fun k x => cV E (aF (M r) k x)))) := by rw [cW_get hr, hσ]; rfl
  have hap := va_apart (own := iO I) hts hin ty0 hty hnm hK hc
  obtain ⟨rr, h1, cell, q1, q2, q3, q4⟩ := hP r _ he
  have hr' : rr = (C, T, Nf) := Option.some.inj (h1.symm.trans hc)
  subst hr'
  obtain ⟨hSl, hfc, kC, hkC, hkind⟩ := hK.1 ci _ hc
  obtain ⟨cf, kf, fi, f, hi, hsl⟩ := hSl j hj
  have hlay := hts _ (hin _ (u_in_lay hj))
  unfold u_lay at hlay
  rw [if_pos hfin] at hlay
  have hst := (u_facts hfc hkC (u_lays hts hin hj) hi).1
  have hcf : m.cls = cf := by
    obtain ⟨_, _, c', _, _, _, -, -, hf', -, -, -, hown2, -⟩ := Cond.laysFinal_spec hlay
    have e1 : c' = cf := by have := hi.symm.trans hf'; simp at this; exact this.1.symm
    rw [hdecl] at hown2
    rw [← e1]; exact Option.some.inj (hown.symm.trans hown2)
  have h6 := u_fits hfc hkC hkind (Or.inr hlay) hi hdt (hn (aE E r2)) (hfit (aE E r2))
  refine W.putFinK hx hb hown (hts _ hlk) hi hst hcf (hnam.trans hin2) (by rw [q2]; exact h6) q1 q3 (by rw [hsl]; exact k2_hasslot (q4 j hj)) rfl rfl hd fun H' e1 e2 e3 => ?_
  have hl9 : j < (fk.mapIdx (fun k x => cV E (aF (M r) k x))).length := by simpa using hl
  rw [hsl] at e1 ⊢
  have hP2 := hP.set hD he (e := .inr (ci, (fk.mapIdx (fun k x => cV E (aF (M r) k x))).set j (.ref (aE E r2)))) ⟨_, hc, t_OB.to (V := updV (vp_V (fk.mapIdx (fun k x => cV E (aF (M r) k x)))) j (.ref (aE E r2))) ⟨_, e1, q2, q3, t_set q4 hap hj _⟩ (fun i _ => vp_updV_set hl9 _ i)⟩ e3
  have hD2 := hD.set (e := .inr (ci, (fk.mapIdx (fun k x => cV E (aF (M r) k x))).set j (.ref (aE E r2)))) he
  have ew : (cW E σ N M).set r (aE E r, .inr (ci, (fk.mapIdx (fun k x => cV E (aF (M r) k x))).set j (.ref (aE E r2)))) = cW E (us σ r (.inr (ci, fk.set j (some (some r2))))) N M := by
    rw [mi_setR E (M r) fk hl r2]
    have := cW_set (E := E) (σ := σ) (N := N) (M := M) (k := r) (.inr (ci, fk.set j (some (some r2)))) (M r)
    rw [show um M r (M r) = M from by funext q; by_cases hq : q = r <;> simp [um, hq]] at this
    exact this
  rw [ew] at hP2 hD2
  exact h p e s m args below meth c H' _ cells slots mc ms A lsr a ⟨hK, hP2, hD2, hS0.put e2 e3 (hD.2 r _ he), hA, hlv, hSC, hN, um_sz e2 hsz⟩ c1 c2
theorem wp_iald {r nn : Nat} {i : Int32} (hσ : σ r = .inl (0, nn, false)) (hr : r < N) (hin : vp_in i nn) (hd : decode I.1 pc = .ok (.iaload, 1)) (h : WP E I d k n al (pc + 1) ls (.int (M r i.toNatClampNeg) :: st) σ N M Q) : WP E I d k n al pc ls (.int i :: .ref r :: st) σ N M Q := fun p e s m args below meth c H locs cells slots mc ms A lsr a b c1 c2 => va_iald (a := aE E r) (n := nn) (f := M r) a.1 a.2.1 b.1 b.2.1 r 0 (by rw [cW_get hr, hσ]; rfl) rfl hin hd (h p e s m args below meth c H locs cells slots mc ms A lsr a b c1 c2)
theorem wp_cald {r nn : Nat} {i : Int32} (hσ : σ r = .inl (1, nn, false)) (hr : r < N) (hin : vp_in i nn) (hd : decode I.1 pc = .ok (.caload, 1)) (h : WP E I d k n al (pc + 1) ls (.int (M r i.toNatClampNeg) :: st) σ N M Q) : WP E I d k n al pc ls (.int i :: .ref r :: st) σ N M Q := fun p e s m args below meth c H locs cells slots mc ms A lsr a b c1 c2 => va_cald (a := aE E r) (n := nn) (f := M r) a.1 a.2.1 b.1 b.2.1 r 1 (by rw [cW_get hr, hσ]; rfl) rfl hin hd (h p e s m args below meth c H locs cells slots mc ms A lsr a b c1 c2)
theorem wp_zald {r nn : Nat} {i : Int32} (hσ : σ r = .inl (2, nn, false)) (hr : r < N) (hin : vp_in i nn) (hd : decode I.1 pc = .ok (.baload, 1)) (h : WP E I d k n al (pc + 1) ls (.int (M r i.toNatClampNeg) :: st) σ N M Q) : WP E I d k n al pc ls (.int i :: .ref r :: st) σ N M Q := fun p e s m args below meth c H locs cells slots mc ms A lsr a b c1 c2 => va_zald (a := aE E r) (n := nn) (f := M r) a.1 a.2.1 b.1 b.2.1 r 2 (by rw [cW_get hr, hσ]; rfl) rfl hin hd (h p e s m args below meth c H locs cells slots mc ms A lsr a b c1 c2)
theorem wp_aald {r nn : Nat} {i : Int32} (hσ : σ r = .inl (3, nn, true)) (hr : r < N) (hin : vp_in i nn) (hd : decode I.1 pc = .ok (.aaload, 1)) (h : WP E I d k n al (pc + 1) ls (aR (M r i.toNatClampNeg) :: st) σ N M Q) : WP E I d k n al pc ls (.int i :: .ref r :: st) σ N M Q := fun p e s m args below meth c H locs cells slots mc ms A lsr a b c1 c2 => va_aldq (a := aE E r) (n := nn) (f := fun i => cR E (M r i)) a.1 a.2.1 b.1 b.2.1 r 3 (by rw [cW_get hr, hσ]; rfl) rfl hin hd (by have e9 : cV E (aR (M r i.toNatClampNeg)) = va_rf (cR E (M r i.toNatClampNeg)) := (by unfold aR cR; split <;> rfl); have h9 := h p e s m args below meth c H locs cells slots mc ms A lsr a b c1 c2; rw [List.map_cons, e9] at h9; exact h9)
theorem wp_alen {r nn t : Nat} {bb : Bool} {v : Int32} (hσ : σ r = .inl (t, nn, bb)) (hr : r < N) (ht : t < 4) (hv : Int32.ofNat nn = v) (hd : decode I.1 pc = .ok (.arraylength, 1)) (h : WP E I d k n al (pc + 1) ls (.int v :: st) σ N M Q) : WP E I d k n al pc ls (.ref r :: st) σ N M Q := by
  intro p e s m args below meth c H locs cells slots mc ms A lsr a b c1 c2
  have ht2 : ∃ ty, (eT E)[t]? = some (eC E t, ty) := by rcases (show t = 0 ∨ t = 1 ∨ t = 2 ∨ t = 3 by omega) with rfl | rfl | rfl | rfl <;> exact ⟨_, rfl⟩
  obtain ⟨ty, ht2⟩ := ht2
  cases bb
  · exact va_alen (a := aE E r) (x := (nn, .inl (M r))) a.1 a.2.1 b.1 b.2.1 r t (by rw [cW_get hr, hσ]; rfl) ht2 hv hd (h p e s m args below meth c H locs cells slots mc ms A lsr a b c1 c2)
  · exact va_alen (a := aE E r) (x := (nn, .inr (.inr (.inr (.inr (fun i => cR E (M r i))))))) a.1 a.2.1 b.1 b.2.1 r t (by rw [cW_get hr, hσ]; rfl) ht2 hv hd (h p e s m args below meth c H locs cells slots mc ms A lsr a b c1 c2)
theorem wp_iast {r nn : Nat} {i x : Int32} (hσ : σ r = .inl (0, nn, false)) (hr : r < N) (hin : vp_in i nn) (hd : decode I.1 pc = .ok (.iastore, 1)) (h : ∀ M1, M1 = um M r (upd (M r) i.toNatClampNeg x) → WP E I d k n al (pc + 1) ls st σ N M1 Q) : WP E I d k n al pc ls (.int x :: .int i :: .ref r :: st) σ N M Q := by
  intro p e s m args below meth c H locs cells slots mc ms A lsr a b c1 c2
  obtain ⟨hK, hP, hD, hS, hA, hlv, hSC, hN, hsz⟩ := b
  have he : (cW E σ N M)[r]? = some (aE E r, .inl (eC E 0, nn, .inl (M r))) := by rw [cW_get hr, hσ]; rfl
  refine W.iast a.1 a.2.1 (hP r _ he) ((hK.2 0 _ rfl).1 nn (fun j => .int (M r j))) (fun q => by cases q) (by show ¬ (i < 0 ∨ (arrV _ _ _).slots.size ≤ _); rw [arrV_size]; exact hin) rfl rfl hd fun H1 e1 z oq => ?_
  have hat : va_at (eD E) vwCl (aE E r, .inl (eC E 0, nn, .inl (upd (M r) i.toNatClampNeg x))) H1 := by
    show H1[aE E r]? = some (vp_cell _ _)
    rw [e1]
    rw [vp_cell_i, vp_cell_i, arrV_store]
    congr 2
    funext q
    by_cases hq : q = i.toNatClampNeg
    · subst hq
      simp [updV, upd, vp_nar]
      try rfl
    · simp [updV, upd, hq]
  have hP2 := hP.set hD he hat oq
  have hD2 := hD.set (e := .inl (eC E 0, nn, .inl (upd (M r) i.toNatClampNeg x))) he
  have ew : (cW E σ N M).set r (aE E r, .inl (eC E 0, nn, .inl (upd (M r) i.toNatClampNeg x))) = cW E σ N (um M r (upd (M r) i.toNatClampNeg x)) := cW_set' _ (by rw [hσ]; rfl)
  rw [ew] at hP2 hD2
  exact h _ rfl p e s m args below meth c H1 _ cells slots mc ms A lsr a ⟨hK, hP2, hD2, hS.put z oq (hD.2 r _ he), hA, hlv, hSC, hN, um_sz z hsz⟩ c1 c2
theorem wp_zast {r nn : Nat} {i x : Int32} (hσ : σ r = .inl (2, nn, false)) (hr : r < N) (hin : vp_in i nn) (hd : decode I.1 pc = .ok (.bastore, 1)) (h : ∀ M1, M1 = um M r (upd (M r) i.toNatClampNeg (vp_nar .boolean x)) → WP E I d k n al (pc + 1) ls st σ N M1 Q) : WP E I d k n al pc ls (.int x :: .int i :: .ref r :: st) σ N M Q := by
  intro p e s m args below meth c H locs cells slots mc ms A lsr a b c1 c2
  obtain ⟨hK, hP, hD, hS, hA, hlv, hSC, hN, hsz⟩ := b
  have he : (cW E σ N M)[r]? = some (aE E r, .inl (eC E 2, nn, .inl (M r))) := by rw [cW_get hr, hσ]; rfl
  refine W.zast a.1 a.2.1 (hP r _ he) ((hK.2 2 _ rfl).1 nn (fun j => .int (M r j))) (fun q => by cases q) (by show ¬ (i < 0 ∨ (arrV _ _ _).slots.size ≤ _); rw [arrV_size]; exact hin) rfl rfl hd fun H1 e1 z oq => ?_
  have hat : va_at (eD E) vwCl (aE E r, .inl (eC E 2, nn, .inl (upd (M r) i.toNatClampNeg (vp_nar .boolean x)))) H1 := by
    show H1[aE E r]? = some (vp_cell _ _)
    rw [e1]
    rw [vp_cell_i, vp_cell_i, arrV_store]
    congr 2
    funext q
    by_cases hq : q = i.toNatClampNeg
    · subst hq
      simp [updV, upd, vp_nar]
      try rfl
    · simp [updV, upd, hq]
  have hP2 := hP.set hD he hat oq
  have hD2 := hD.set (e := .inl (eC E 2, nn, .inl (upd (M r) i.toNatClampNeg (vp_nar .boolean x)))) he
  have ew : (cW E σ N M).set r (aE E r, .inl (eC E 2, nn, .inl (upd (M r) i.toNatClampNeg (vp_nar .boolean x)))) = cW E σ N (um M r (upd (M r) i.toNatClampNeg (vp_nar .boolean x))) := cW_set' _ (by rw [hσ]; rfl)
  rw [ew] at hP2 hD2
  exact h _ rfl p e s m args below meth c H1 _ cells slots mc ms A lsr a ⟨hK, hP2, hD2, hS.put z oq (hD.2 r _ he), hA, hlv, hSC, hN, um_sz z hsz⟩ c1 c2
theorem wp_cast {r nn : Nat} {i x : Int32} (hσ : σ r = .inl (1, nn, false)) (hr : r < N) (hin : vp_in i nn) (hd : decode I.1 pc = .ok (.castore, 1)) (h : ∀ M1, M1 = um M r (upd (M r) i.toNatClampNeg (vp_nar .char x)) → WP E I d k n al (pc + 1) ls st σ N M1 Q) : WP E I d k n al pc ls (.int x :: .int i :: .ref r :: st) σ N M Q := by
  intro p e s m args below meth c H locs cells slots mc ms A lsr a b c1 c2
  obtain ⟨hK, hP, hD, hS, hA, hlv, hSC, hN, hsz⟩ := b
  have he : (cW E σ N M)[r]? = some (aE E r, .inl (eC E 1, nn, .inl (M r))) := by rw [cW_get hr, hσ]; rfl
  refine W.cast a.1 a.2.1 (hP r _ he) ((hK.2 1 _ rfl).1 nn (fun j => .int (M r j))) (fun q => by cases q) (by show ¬ (i < 0 ∨ (arrV _ _ _).slots.size ≤ _); rw [arrV_size]; exact hin) rfl rfl hd fun H1 e1 z oq => ?_
  have hat : va_at (eD E) vwCl (aE E r, .inl (eC E 1, nn, .inl (upd (M r) i.toNatClampNeg (vp_nar .char x)))) H1 := by
    show H1[aE E r]? = some (vp_cell _ _)
    rw [e1]
    rw [vp_cell_i, vp_cell_i, arrV_store]
    congr 2
    funext q
    by_cases hq : q = i.toNatClampNeg
    · subst hq
      simp [updV, upd, vp_nar]
      try rfl
    · simp [updV, upd, hq]
  have hP2 := hP.set hD he hat oq
  have hD2 := hD.set (e := .inl (eC E 1, nn, .inl (upd (M r) i.toNatClampNeg (vp_nar .char x)))) he
  have ew : (cW E σ N M).set r (aE E r, .inl (eC E 1, nn, .inl (upd (M r) i.toNatClampNeg (vp_nar .char x)))) = cW E σ N (um M r (upd (M r) i.toNatClampNeg (vp_nar .char x))) := cW_set' _ (by rw [hσ]; rfl)
  rw [ew] at hP2 hD2
  exact h _ rfl p e s m args below meth c H1 _ cells slots mc ms A lsr a ⟨hK, hP2, hD2, hS.put z oq (hD.2 r _ he), hA, hlv, hSC, hN, um_sz z hsz⟩ c1 c2
theorem wp_aast {r nn v : Nat} {i : Int32} {fk : List (Option (Option Nat))} (hσ : σ r = .inl (3, nn, true)) (hr : r < N) (hσv : σ v = .inr (4, fk)) (hv : v < N) (hin : vp_in i nn) (hd : decode I.1 pc = .ok (.aastore, 1)) (h : ∀ M1, M1 = um M r (upd (M r) i.toNatClampNeg (nI v)) → WP E I d k n al (pc + 1) ls st σ N M1 Q) : WP E I d k n al pc ls (.ref v :: .int i :: .ref r :: st) σ N M Q := by
  intro p e s m args below meth c H locs cells slots mc ms A lsr a b c1 c2
  obtain ⟨hK, hP, hD, hS, hA, hlv, hSC, hN, hsz⟩ := b
  have he : (cW E σ N M)[r]? = some (aE E r, .inl (eC E 3, nn, .inr (.inr (.inr (.inr (fun i => cR E (M r i))))))) := by rw [cW_get hr, hσ]; rfl
  have hev : (cW E σ N M)[v]? = some (aE E v, .inr (4, fk.mapIdx (fun k x => cV E (aF (M v) k x)))) := by rw [cW_get hv, hσv]; rfl
  have hlt : i.toNatClampNeg < nn := Nat.not_le.mp fun q => hin (Or.inr q)
  have h0 : ¬ i < 0 := fun q => hin (Or.inl q)
  obtain ⟨r', hr', cellV, g1, g2, g3, -⟩ := hP v _ hev
  have hcls := (hK.1 4 (RX4, TX4, 7) rfl).2
  obtain ⟨kA, comp, k1, k2, k3, -⟩ := (hK.2 3 _ rfl).2
  have hcomp : comp = (eD E).1 4 := Option.some.inj (k3.symm.trans hcls.1)
  subst hcomp
  obtain ⟨kC, hkC, -⟩ := hcls.2
  refine W.aast a.1 a.2.1 (hP r _ he) (fun q h => by cases h) (fun h => by cases h) k1 k2 rfl hkC ⟨h0, by show _ < (arrV _ _ _).slots.size; rw [arrV_size]; exact hlt⟩ g1 (fun q h => by rw [g3] at h; cases h) (by rw [g2]; exact hkC) (by rw [g2]; exact va_assign hcls) rfl rfl hd fun H1 e1 z oq => ?_
  have hvc : cR E (nI v) = some (aE E v) := by
    unfold cR
    rw [if_neg (nI_pos (by omega)), nI_clamp (by omega)]
  have hat : va_at (eD E) vwCl (aE E r, .inl (eC E 3, nn, .inr (.inr (.inr (.inr (fun j => cR E (upd (M r) i.toNatClampNeg (nI v) j))))))) H1 := by
    show H1[aE E r]? = some (vp_cell _ _)
    rw [e1]
    rw [vp_cell_q, vp_cell_q, arrV_store]
    congr 2
    funext q
    by_cases hq : q = i.toNatClampNeg
    · subst hq
      simp [updV, upd, hvc, va_rf]
    · simp [updV, upd, hq]
  have hP2 := hP.set hD he hat oq
  have hD2 := hD.set (e := .inl (eC E 3, nn, .inr (.inr (.inr (.inr (fun j => cR E (upd (M r) i.toNatClampNeg (nI v) j))))))) he
  have ew : (cW E σ N M).set r (aE E r, .inl (eC E 3, nn, .inr (.inr (.inr (.inr (fun j => cR E (upd (M r) i.toNatClampNeg (nI v) j))))))) = cW E σ N (um M r (upd (M r) i.toNatClampNeg (nI v))) := cW_set' _ (by rw [hσ]; rfl)
  rw [ew] at hP2 hD2
  exact h _ rfl p e s m args below meth c H1 _ cells slots mc ms A lsr a ⟨hK, hP2, hD2, hS.put z oq (hD.2 r _ he), hA, hlv, hSC, hN, um_sz z hsz⟩ c1 c2
theorem wp_gets {idx : Nat} (j : Nat) (hj : j < 3) (hlk : Cond.fieldLink (iO I) idx RX6 (sn j) "[I" ∈ iW I) (hd : decode I.1 pc = .ok (.getstatic idx, 3)) (h : WP E I d k n al (pc + 3) ls (.ref (1000 + j) :: st) σ N M Q) : WP E I d k n al pc ls st σ N M Q := fun p e s m args below meth c H locs cells slots mc ms A lsr a b c1 c2 => va_gets a.1 a.2.1 (b.2.2.2.2.2.2.1.1 j hj).1 b.2.2.2.1 a.2.2.2.2.1 (a.2.2.2.2.2.1 _ hlk) (fun _ h9 => h9) hd (by have h9 := h p e s m args below meth c H locs cells slots mc ms A lsr a b c1 c2; have e9 : cV E (.ref (1000 + j)) = .ref (eS E j) := cV_st E j; rw [List.map_cons, e9] at h9; exact h9)
theorem wp_getsN (hO : iO I = RX4) (hd : decode I.1 pc = .ok (.getstatic 32, 3)) (h : WP E I d k n al (pc + 3) ls (.ref 1000 :: st) σ N M Q) : WP E I d k n al pc ls st σ N M Q := fun p e s m args below meth c H locs cells slots mc ms A lsr a b c1 c2 => va_getsN a.1 a.2.1 (b.2.2.2.2.2.2.1.1 0 (by decide)).1 b.2.2.2.1 a.2.2.2.2.1 (by rw [hO]; exact va_Nw.use rfl b.2.2.2.2.2.2.1.2.2) (fun _ h9 => h9) hd (by have h9 := h p e s m args below meth c H locs cells slots mc ms A lsr a b c1 c2; have e9 : cV E (.ref 1000) = .ref (eS E 0) := rfl; rw [List.map_cons, e9] at h9; exact h9)
theorem wp_tald {i : Int32} (j : Nat) (hj : j < 3) (hin : vp_in i 4) (hd : decode I.1 pc = .ok (.iaload, 1)) (h : WP E I d k n al (pc + 1) ls (.int (sv j i.toNatClampNeg) :: st) σ N M Q) : WP E I d k n al pc ls (.int i :: .ref (1000 + j) :: st) σ N M Q := fun p e s m args below meth c H locs cells slots mc ms A lsr a b c1 c2 => (by have e9 : cV E (.ref (1000 + j)) = .ref (eS E j) := cV_st E j; rw [List.map_cons, List.map_cons, e9]; exact va_ti a.1 a.2.1 (b.2.2.2.2.2.2.1.1 j hj).2 b.2.2.2.1 hin rfl hd (h p e s m args below meth c H locs cells slots mc ms A lsr a b c1 c2))
theorem wp_tlen (j : Nat) (hj : j < 3) (hd : decode I.1 pc = .ok (.arraylength, 1)) (h : WP E I d k n al (pc + 1) ls (.int 4 :: st) σ N M Q) : WP E I d k n al pc ls (.ref (1000 + j) :: st) σ N M Q := fun p e s m args below meth c H locs cells slots mc ms A lsr a b c1 c2 => (by have e9 : cV E (.ref (1000 + j)) = .ref (eS E j) := cV_st E j; rw [List.map_cons, e9]; exact va_tlen a.1 a.2.1 (b.2.2.2.2.2.2.1.1 j hj).2 b.2.2.2.1 (v := 4) rfl hd (h p e s m args below meth c H locs cells slots mc ms A lsr a b c1 c2))
theorem wp_topi {x : Int32} (h : ∀ y : Int32, y = x → WP E I d k n al pc ls (.int y :: st) σ N M Q) : WP E I d k n al pc ls (.int x :: st) σ N M Q := h x rfl
theorem wp_sub {ls' : List (Nat × Value)} (ks : List Nat) (hl : lv_pick ls ks = ls') (h : WP E I d k n al pc ls' st σ N M Q) : WP E I d k n al pc ls st σ N M Q := fun p e s m args below meth c H locs cells slots mc ms A lsr a b c1 c2 => h p e s m args below meth c H locs cells slots mc ms A lsr a ⟨b.1, b.2.1, b.2.2.1, b.2.2.2.1, b.2.2.2.2.1, ⟨b.2.2.2.2.2.1.1, b.2.2.2.2.2.1.2.1, fun q hq => (by obtain ⟨q', hq', rfl⟩ := List.mem_map.mp hq; rw [← hl] at hq'; obtain ⟨j, -, hj⟩ := List.mem_filterMap.mp hq'; exact b.2.2.2.2.2.1.2.2 _ (List.mem_map.mpr ⟨q', List.mem_of_getElem? hj, rfl⟩))⟩, b.2.2.2.2.2.2⟩ c1 c2
end WPR
end
section
/-! returns, entries, calls, new cells, in the words of 10.wp -/
section WPC
variable {E : EN} {I : MI} {d k n : Nat} {al : Bool} {pc : Nat} {ls : List (Nat × Value)} {st : List Value} {σ : Nat → KD} {N : Nat} {M : Nat → Nat → Int32} {Q : PST}
theorem wp_ireturn {v : Int32} {ty : FieldType} (hrt : I.2.2.1 = some ty) (hn : narrow ty (.int v) = .int v) (hd : decode I.1 pc = .ok (.ireturn, 1)) (hQ : Q (some (.int v)) σ N M) : WP E I d k n al pc ls [.int v] σ N M Q := by
  intro p e s m args below meth c H locs cells slots mc ms A lsr a b c1 c2
  obtain ⟨hK, hP, hD, hS, hA, hlv, hSC, hN, hsz⟩ := b
  refine W.widen (k := mc) (n := ms) (by omega) (by omega) ?_
  exact W.zret (v := v) (ty := ty) a.1 a.2.1 (a.2.2.2.1.trans hrt) hn (fun t ht hW => ⟨⟨some (.int v), σ, N, M, rfl, hQ, by rw [ht]; exact hP, va_K.moved hW.alike hK, hD, hN, fun q => by rw [ht]; exact hsz q⟩, hS.F ht⟩) hS.2.2 hd a.2.2.2.2.2.2.1
theorem wp_return (hrt : I.2.2.1 = none) (hd : decode I.1 pc = .ok (.return_, 1)) (hQ : Q none σ N M) : WP E I d k n al pc ls [] σ N M Q := by
  intro p e s m args below meth c H locs cells slots mc ms A lsr a b c1 c2
  obtain ⟨hK, hP, hD, hS, hA, hlv, hSC, hN, hsz⟩ := b
  refine W.widen (k := mc) (n := ms) (by omega) (by omega) ?_
  exact W.vret a.1 a.2.1 (a.2.2.2.1.trans hrt) (fun t ht hW => ⟨⟨none, σ, N, M, rfl, hQ, by rw [ht]; exact hP, va_K.moved hW.alike hK, hD, hN, fun q => by rw [ht]; exact hsz q⟩, hS.F ht⟩) hS.2.2 hd a.2.2.2.2.2.2.1
theorem wp_areturn {v : Value} {C : String} (hv : v = .null ∨ ∃ r, v = .ref r) (hrt : I.2.2.1 = some (.object C)) (hd : decode I.1 pc = .ok (.areturn, 1)) (hQ : Q (some v) σ N M) : WP E I d k n al pc ls [v] σ N M Q := by
  intro p e s m args below meth c H locs cells slots mc ms A lsr a b c1 c2
  obtain ⟨hK, hP, hD, hS, hA, hlv, hSC, hN, hsz⟩ := b
  refine W.widen (k := mc) (n := ms) (by omega) (by omega) ?_
  exact W.aret (v := cV E v) a.1 a.2.1 (a.2.2.2.1.trans hrt) (Or.inl ⟨C, rfl⟩) (by rcases hv with rfl | ⟨r, rfl⟩; exact Or.inl rfl; exact Or.inr ⟨_, rfl⟩) (fun t ht hW => ⟨⟨some v, σ, N, M, rfl, hQ, by rw [ht]; exact hP, va_K.moved hW.alike hK, hD, hN, fun q => by rw [ht]; exact hsz q⟩, hS.F ht⟩) hS.2.2 hd a.2.2.2.2.2.2.1
theorem lg_len (E : EN) (av : List Value) : (lg_sl (av.map (cV E))).length = (lg_sl av).length := by
  induction av with
  | nil => rfl
  | cons v r ih =>
    simp only [lg_sl, List.map_cons, List.flatMap_cons, List.length_append, cV_cat] at ih ⊢
    rw [ih]
    split <;> rfl
theorem la_map (E : EN) (av : List Value) : ∀ i, lv_args i (av.map (cV E)) = (lv_args i av).map (cL E) := by
  induction av with
  | nil => intro i; rfl
  | cons v r ih =>
    intro i
    simp only [List.map_cons, lv_args, cV_cat, ih]
    rfl
theorem mw_intro {av : List Value} {ws' : List Cond} (hI : iW I = Cond.code (iY I) I.1 I.2.1 I.2.2.1 :: ws') (hy : plainName (iY I).cls = true) (hown : (iY I).cls = iO I) (hls : lv_args 0 av = ls) (hlen : (lg_sl av).length ≤ I.2.1) (h : WP E I d k n al 0 ls [] σ N M Q) : MW E I d k n al av σ N M Q := by
  intro sz hsz
  refine Met.ofW (cc := I.1) (maxL := I.2.1) (ret := I.2.2.1) hy hI ?_
  intro p e s m args below meth c s₁ B hml hv
  obtain ⟨rfl, hz, hP, hK, hD0, hSC, hN⟩ := hv
  subst hz
  have hD := hD0.self (sz := s.heap.size)
  have hlv := lv_entry (av.map (cV E)) (n := I.2.1) (by rw [lg_len]; exact hlen)
  rw [lg_entry_eq]
  have hw : s.vm.findClass (iY I).cls = some m.cls := findClass_of_methodNamed B.named
  rw [hown] at hw
  rw [la_map, hls] at hlv
  exact h p e s m _ below meth c s.heap [] 0 0 k n (va_A (cW E σ N M) s.heap.size) _ ⟨B.exec, B.bytes, hml, B.returns, hw, atoms_spec B.pre, B.notSynchronized, (name_of_methodNamed B.named B.method).1⟩ ⟨hK, hP, hD, va_S.rf, fun q hq => Or.inr hq, hlv, hSC, hN, hsz⟩ (by omega) (by omega)
theorem pre_blind (av : List Value) (sz : Nat) : FrameBlind (va_Pc av (PRE E σ N M sz)) := by
  intro a U g mk q
  obtain ⟨q0, q1, qP, qK, qD, qS, qN⟩ := q
  exact ⟨q0, q1, qP, va_K.moved (u := U) (U := U.calling g mk a) (Vm.Alike.refl U.vm) qK, qD, SC.moved (Vm.Alike.refl U.vm) (fun h => va_Nw.same rfl rfl h) qS, qN⟩
theorem pre_at {s : State} {H : Heap} {locs : List Loc} {A : Nat → Prop} {lsr : Array Slot} (b : CB E I al s H locs A lsr ls σ N M) {U : State} (hU : U.heap = H) (hW : s.WarmedH U.vm) : PRE E σ N M H.size U := by
  obtain ⟨hK, hP, hD, hS, hA, hlv, hSC, hN, hsz⟩ := b
  refine ⟨by rw [hU], by rw [hU]; exact hP, va_K.moved hW.alike hK, hD.weaken (fun _ _ _ _ => trivial), ?_, hN⟩
  rw [hU]
  refine SC.moved hW.alike (fun h => va_Nw.warmF hW h) (SC.narrow ?_ (SC.kept hS.2.1 hSC))
  intro q hq
  rcases hq with ⟨j, ee, hj⟩ | hq
  · exact hD.2 j (q, ee) hj
  · exact hA q (Nat.le_trans hS.1 hq)
/-- behind a call -/
theorem wp_back {p : Program} {e : Env} {s : State} {m : MethodId} {args : Array Value} {below : List Frame} {meth : Method} {c : Code} {H : Heap} {locs : List Loc} {cells slots mc ms : Nat} {A : Nat → Prop} {lsr : Array Slot} {k' n' k'' n'' : Nat} {Q1 : PST} {g : JFrame} {av : Array Value}
    (a : CA I p s m args meth c) (b : CB E I al s H locs A lsr ls σ N M) (hg : ∃ s1, g = F0 m pc lsr s1) (c1 : cells + (k' + k'') ≤ mc) (c2 : slots + (n' + n'') ≤ ms)
    (hr : va_Run p (eL E) e (rmD d mc ms) s m args below meth c H locs cells slots k' n' g (st.map (cV E)) (QC E al (va_A (cW E σ N M) H.size) Q1 av) (va_A (cW E σ N M) H.size))
    (kk : ∀ v σ' N' M', Q1 v σ' N' M' → WP E I d k'' n'' al (pc + 3) ls (v.toList ++ st) σ' N' M' Q) :
    W p (eL E) e (rmD d mc ms) s m args below meth c H locs cells slots (MQ below (QC E al A Q) args s mc ms A) g := by
  obtain ⟨s1, rfl⟩ := hg
  obtain ⟨hK, hP, hD, hS, hA, hlv, hSC, hN, hsz⟩ := b
  have hFc : ∀ q, va_A (cW E σ N M) H.size q → A q := by
    intro q hq
    rcases hq with ⟨j, ee, hj⟩ | hq
    · exact hD.2 j (q, ee) hj
    · exact hA q (Nat.le_trans hS.1 hq)
  intro T hT X
  obtain ⟨v, st₀, t, T', L, h0, X', hL, e1, e2, ⟨⟨r, σ', N', M', ho, hQ1, hP1, hK1, hD1, hN1, hz1⟩, hz, hk⟩, stp⟩ := hr T hT X
  have hv : v = r.map (cV E) := by cases ho; rfl
  subst hv
  rw [h0] at hz hk
  have b' : CB E I al s T'.heap (locs ++ L) A lsr ls σ' N' M' := ⟨hK, by rw [e1]; exact hP1, hD1.weaken (fun j q _ h => hFc q.1 h), ⟨Nat.le_trans hS.1 (by rw [e1]; exact hz), fun q h1 h2 => by rw [e1, hk q (Nat.lt_of_lt_of_le h1 hS.1) (fun z => h2 (hFc q z))]; exact hS.2.1 q h1 h2, fun q hq => by
      rcases List.mem_append.mp hq with h | h
      · exact hS.2.2 q h
      · exact hFc _ (hL q h)⟩, hA, hlv, hSC, hN1, fun q => by rw [e1]; exact hz1 q⟩
  obtain ⟨t2, a1, b1⟩ := kk r σ' N' M' hQ1 p e s m args below meth c T'.heap (locs ++ L) (cells + k') (slots + n') mc ms A lsr a b' (by omega) (by omega) T' rfl X'
  refine ⟨t2, stp t2 ?_, b1⟩
  have eg : ({ (F0 m pc lsr s1) with pc := (F0 m pc lsr s1).pc + 3, stack := (r.map (cV E)).toList ++ st.map (cV E) } : JFrame) = F0 m (pc + 3) lsr ((r.toList ++ st).map (cV E)) := by
    cases r <;> rfl
  rw [eg]
  exact a1
theorem rm_ok {d d' mc ms k' n' : Nat} {mx : Nat} (hdep : d' + 1 ≤ d) (hmx : mx ≤ 13) : (rmD d' k' n').frames + 1 ≤ (rmD d mc ms).frames ∧ 8 + (mx + 11) + (rmD d' k' n').locals ≤ (rmD d mc ms).locals := by
  refine ⟨hdep, ?_⟩
  show 8 + (mx + 11) + d' * 32 ≤ d * 32
  omega
theorem wp_callV {J : MI} {idx d' k' n' k'' n'' r ci Nf na : Nat} {fk : List (Option (Option Nat))} {T : u_T} {As : List Value} {ws' : List Cond} {Q1 : PST} {st0 : List Value}
    (hM : MW E J d' k' n' al (.ref r :: As) σ N M Q1) (hG : GoodIn (iW I) (wsV (iO I) idx (iO J) (iY J) (iW J))) (hJ : iW J = Cond.code (iY J) J.1 J.2.1 J.2.2.1 :: ws')
    (hy : (iY J).cls = iO J ∧ (iY J).cls ≠ "java/lang/invoke/MethodHandle" ∧ (iY J).cls ≠ "java/lang/invoke/VarHandle" ∧ (parseMethodDescriptor (iY J).desc).map (fun d => d.parameters.length) = some na) (hna : As.length = na)
    (hσ : σ r = .inr (ci, fk)) (hr : r < N) (hc : vwCl[ci]? = some (iO J, T, Nf)) (hdep : d' + 1 ≤ d) (hmx : J.2.1 ≤ 13) (hst : (st.map fun v => v.category).sum ≤ 8) (hs0 : st0 = As.reverse ++ .ref r :: st) (hk : k = k' + k'') (hn : n = n' + n'')
    (hd : decode I.1 pc = .ok (.invokevirtual idx, 3)) (kk : ∀ v σ' N' M', Q1 v σ' N' M' → WP E I d k'' n'' al (pc + 3) ls (v.toList ++ st) σ' N' M' Q) : WP E I d k n al pc ls st0 σ N M Q := by
  subst hs0; subst hk; subst hn
  intro p e s m args below meth c H locs cells slots mc ms A lsr a b c1 c2
  have he : (cW E σ N M)[r]? = some (aE E r, .inr (ci, fk.mapIdx (fun k x => cV E (aF (M r) k x)))) := by rw [cW_get hr, hσ]; rfl
  refine wp_back (st := st) (av := (Value.ref (aE E r) :: As.map (cV E)).toArray) a b ⟨_, rfl⟩ c1 c2 ?_ kk
  exact va_runV (As := As.map (cV E)) (rest := st.map (cV E)) ⟨a.1, a.2.1, a.2.2.1, a.2.2.2.2.1, a.2.2.2.2.2.1⟩ (hM H.size b.2.2.2.2.2.2.2.2) (cwV na a.2.2.2.2.2.1 hG hJ rfl rfl hy (rm_ok hdep hmx)) ⟨pre_blind _ _, va_recv b.1 b.2.1 (ci := ci) (q0 := r) hc he, fun U hU hW => ⟨rfl, pre_at b hU hW⟩⟩ rfl (by rw [List.length_map]; exact hna) b.2.2.2.2.2.1.1 (by simp [cV]) (by show 2 * 0 + _ ≤ _; rw [cat_map]; omega) hd ⟨by show cells + k' ≤ mc; omega, by show slots + n' ≤ ms; omega⟩
theorem wp_callS {J : MI} {idx d' k' n' k'' n'' na : Nat} {As : List Value} {ws' : List Cond} {Q1 : PST} {st0 : List Value}
    (hM : MW E J d' k' n' al As σ N M Q1) (hG : GoodIn (iW I) (va_wsS (iO I) idx (iY J) (iW J))) (hJ : iW J = Cond.code (iY J) J.1 J.2.1 J.2.2.1 :: ws')
    (hy : (iY J).cls ≠ "java/lang/invoke/MethodHandle" ∧ (iY J).cls ≠ "java/lang/invoke/VarHandle" ∧ (parseMethodDescriptor (iY J).desc).map (fun d => d.parameters.length) = some na) (hna : As.length = na)
    (hdep : d' + 1 ≤ d) (hmx : J.2.1 ≤ 13) (hst : (st.map fun v => v.category).sum ≤ 8) (hs0 : st0 = As.reverse ++ st) (hk : k = k' + k'') (hn : n = n' + n'')
    (hd : decode I.1 pc = .ok (.invokestatic idx, 3)) (kk : ∀ v σ' N' M', Q1 v σ' N' M' → WP E I d k'' n'' al (pc + 3) ls (v.toList ++ st) σ' N' M' Q) : WP E I d k n al pc ls st0 σ N M Q := by
  subst hs0; subst hk; subst hn
  intro p e s m args below meth c H locs cells slots mc ms A lsr a b c1 c2
  refine wp_back (st := st) (av := (As.map (cV E)).toArray) a b ⟨_, rfl⟩ c1 c2 ?_ kk
  exact va_runS (As := As.map (cV E)) (rest := st.map (cV E)) ⟨a.1, a.2.1, a.2.2.1, a.2.2.2.2.1, a.2.2.2.2.2.1⟩ (hM H.size b.2.2.2.2.2.2.2.2) (va_cwS na a.2.2.2.2.2.1 hG hJ rfl rfl hy (rm_ok hdep hmx)) ⟨pre_blind _ _, fun U hU hW => ⟨rfl, pre_at b hU hW⟩⟩ rfl (by rw [List.length_map]; exact hna) b.2.2.2.2.2.1.1 (by simp) (by show 2 * 0 + _ ≤ _; rw [cat_map]; omega) hd ⟨by show cells + k' ≤ mc; omega, by show slots + n' ≤ ms; omega⟩
theorem wp_callI {J : MI} {idx d' k' n' k'' n'' r na : Nat} {As : List Value} {ws' : List Cond} {Q1 : PST} {st0 : List Value}
    (hM : MW E J d' k' n' al (.ref r :: As) σ N M Q1) (hG : GoodIn (iW I) (iW J)) (hJ : iW J = Cond.code (iY J) J.1 J.2.1 none :: ws') (hini : Cond.initialized (iY J).cls ∈ iW I) (hlk : Cond.methodLink (iO I) idx (iY J) ∈ iW I) (hin : Cond.instanceMethod (iY J) ∈ iW I) (hy1 : (iY J).name = "<init>")
    (hy : (iY J).cls ≠ "java/lang/invoke/MethodHandle" ∧ (iY J).cls ≠ "java/lang/invoke/VarHandle" ∧ (parseMethodDescriptor (iY J).desc).map (fun d => d.parameters.length) = some na) (hna : As.length = na)
    (hdep : d' + 1 ≤ d) (hmx : J.2.1 ≤ 13) (hst : (st.map fun v => v.category).sum ≤ 8) (hs0 : st0 = As.reverse ++ .ref r :: st) (hk : k = k' + k'') (hn : n = n' + n'')
    (hd : decode I.1 pc = .ok (.invokespecial idx, 3)) (kk : ∀ v σ' N' M', Q1 v σ' N' M' → WP E I d k'' n'' al (pc + 3) ls (v.toList ++ st) σ' N' M' Q) : WP E I d k n al pc ls st0 σ N M Q := by
  subst hs0; subst hk; subst hn
  intro p e s m args below meth c H locs cells slots mc ms A lsr a b c1 c2
  refine wp_back (st := st) (av := (Value.ref (aE E r) :: As.map (cV E)).toArray) a b ⟨_, rfl⟩ c1 c2 ?_ kk
  exact va_runI (As := As.map (cV E)) (rest := st.map (cV E)) ⟨a.1, a.2.1, a.2.2.1, a.2.2.2.2.1, a.2.2.2.2.2.1⟩ (hM H.size b.2.2.2.2.2.2.2.2) (cwI na a.2.2.2.2.2.1 hG hJ rfl rfl (a.2.2.2.2.2.1 _ hini) (a.2.2.2.2.2.1 _ hlk) (a.2.2.2.2.2.1 _ hin) hy1 hy (rm_ok hdep hmx)) ⟨pre_blind _ _, fun U hU hW => ⟨rfl, pre_at b hU hW⟩⟩ rfl (by rw [List.length_map]; exact hna) b.2.2.2.2.2.1.1 (by simp [cV]) (by show 2 * 0 + _ ≤ _; rw [cat_map]; omega) hd ⟨by show cells + k' ≤ mc; omega, by show slots + n' ≤ ms; omega⟩
theorem wp_objInit {idx r : Nat} (hlk : Cond.methodLink (iO I) idx objectInit ∈ iW I) (hin : Cond.instanceMethod objectInit ∈ iW I) (hco : Cond.code objectInit ⟨#[0xb1]⟩ 1 none ∈ iW I) (hd1 : 1 ≤ d) (hst : (st.map fun v => v.category).sum ≤ 8) (hd : decode I.1 pc = .ok (.invokespecial idx, 3)) (h : WP E I d k n al (pc + 3) ls st σ N M Q) : WP E I d k n al pc ls (.ref r :: st) σ N M Q := by
  intro p e s m args below meth c H locs cells slots mc ms A lsr a b c1 c2
  refine W.objInit a.1 a.2.1 a.2.2.2.2.1 (a.2.2.2.2.2.1 _ hlk) (a.2.2.2.2.2.1 _ hin) (a.2.2.2.2.2.1 _ hco) rfl (b.2.2.2.2.2.1.1.trans a.2.2.1.symm) rfl hd hd1 (by show 2 * 0 + _ + 12 ≤ d * 32; rw [cat_map]; omega) ?_
  exact h p e s m args below meth c H locs cells slots mc ms A lsr a b c1 c2
theorem wp_mmin {idx : Nat} {x y : Int32} (hlk : Cond.methodLink (iO I) idx Lib.Math.min.name ∈ iW I) (hs : Cond.static Lib.Math.min.name ∈ iW I) (hi : Cond.initialized "java/lang/Math" ∈ iW I) (hco : Cond.code Lib.Math.min.name Lib.Math.min.code 2 (some .int) ∈ iW I) (hd1 : 1 ≤ d) (hst : (st.map fun v => v.category).sum ≤ 8) (hd : decode I.1 pc = .ok (.invokestatic idx, 3)) (h : WP E I d k n al (pc + 3) ls (.int (if y < x then y else x) :: st) σ N M Q) : WP E I d k n al pc ls (.int y :: .int x :: st) σ N M Q := by
  intro p e s m args below meth c H locs cells slots mc ms A lsr a b c1 c2
  exact va_mmin a.1 a.2.1 (a.2.2.1.trans b.2.2.2.2.2.1.1.symm) a.2.2.2.2.1 (a.2.2.2.2.2.1 _ hlk) (a.2.2.2.2.2.1 _ hs) (a.2.2.2.2.2.1 _ hi) (a.2.2.2.2.2.1 _ hco) hd1 (by show _ + 13 ≤ d * 32; rw [cat_map]; omega) (by show cells ≤ mc; omega) (by show slots ≤ ms; omega) hd (h p e s m args below meth c H locs cells slots mc ms A lsr a b c1 c2)
theorem wp_mmax {idx : Nat} {x y : Int32} (hlk : Cond.methodLink (iO I) idx Lib.Math.max.name ∈ iW I) (hs : Cond.static Lib.Math.max.name ∈ iW I) (hi : Cond.initialized "java/lang/Math" ∈ iW I) (hco : Cond.code Lib.Math.max.name Lib.Math.max.code 2 (some .int) ∈ iW I) (hd1 : 1 ≤ d) (hst : (st.map fun v => v.category).sum ≤ 8) (hd : decode I.1 pc = .ok (.invokestatic idx, 3)) (h : WP E I d k n al (pc + 3) ls (.int (if x < y then y else x) :: st) σ N M Q) : WP E I d k n al pc ls (.int y :: .int x :: st) σ N M Q := by
  intro p e s m args below meth c H locs cells slots mc ms A lsr a b c1 c2
  exact va_mmax a.1 a.2.1 (a.2.2.1.trans b.2.2.2.2.2.1.1.symm) a.2.2.2.2.1 (a.2.2.2.2.2.1 _ hlk) (a.2.2.2.2.2.1 _ hs) (a.2.2.2.2.2.1 _ hi) (a.2.2.2.2.2.1 _ hco) hd1 (by show _ + 13 ≤ d * 32; rw [cat_map]; omega) (by show cells ≤ mc; omega) (by show slots ≤ ms; omega) hd (h p e s m args below meth c H locs cells slots mc ms A lsr a b c1 c2)
/-- System.arraycopy between two int arrays of the world (no cell is being made) -/
theorem wp_copy {idx r0 r1 n0 n1 : Nat} {sp dp z : Int32} (hlk : Cond.methodLink (iO I) idx arraycopyName ∈ iW I) (hna : Cond.native arraycopyName ∈ iW I) (hs : Cond.static arraycopyName ∈ iW I) (hi : Cond.initialized "java/lang/System" ∈ iW I)
    (hσ0 : σ r0 = .inl (0, n0, false)) (hr0 : r0 < N) (hσ1 : σ r1 = .inl (0, n1, false)) (hr1 : r1 < N) (h1 : ¬ sp < 0) (h2 : ¬ dp < 0) (h3 : ¬ z < 0) (h4 : sp.toNatClampNeg + z.toNatClampNeg ≤ n0) (h5 : dp.toNatClampNeg + z.toNatClampNeg ≤ n1) (hd1 : 1 ≤ d) (hst : (st.map fun v => v.category).sum ≤ 8)
    (hd : decode I.1 pc = .ok (.invokestatic idx, 3)) (h : ∀ M1, M1 = um M r1 (va_cpy (M r0) (M r1) sp.toNatClampNeg dp.toNatClampNeg z.toNatClampNeg) → WP E I d k n false (pc + 3) ls st σ N M1 Q) : WP E I d k n false pc ls (.int z :: .int dp :: .ref r1 :: .int sp :: .ref r0 :: st) σ N M Q := by
  intro p e s m args below meth c H locs cells slots mc ms A lsr a b c1 c2
  obtain ⟨hK, hP, hD, hS, hA, hlv, hSC, hN, hsz⟩ := b
  have he0 : (cW E σ N M)[r0]? = some (aE E r0, .inl (eC E 0, n0, .inl (M r0))) := by rw [cW_get hr0, hσ0]; rfl
  have he1 : (cW E σ N M)[r1]? = some (aE E r1, .inl (eC E 0, n1, .inl (M r1))) := by rw [cW_get hr1, hσ1]; rfl
  refine va_copyi (a := aE E r1) (a0 := aE E r0) (q0 := r0) (q1 := r1) (t0 := 0) (t1 := 0) (ty := .int) a.1 a.2.1 (a.2.2.1.trans hlv.1.symm) a.2.2.2.2.1 (a.2.2.2.2.2.1 _ hlk) (a.2.2.2.2.2.1 _ hna) (a.2.2.2.2.2.1 _ hs) (a.2.2.2.2.2.1 _ hi) hK hP hD hS he0 he1 rfl rfl rfl h1 h2 h3 h4 h5 (fun _ _ => rfl) hd1 (by show _ + (nativeFrameWords "java/lang/System" "arraycopy" 5 + 11) ≤ d * 32; rw [cat_map, show nativeFrameWords "java/lang/System" "arraycopy" 5 = 7 by decide]; omega) hd (fun H1 locs1 hP1 hD1 hS1 => ?_)
  have ew : (cW E σ N M).set r1 (aE E r1, .inl (eC E 0, n1, .inl (va_cpy (M r0) (M r1) sp.toNatClampNeg dp.toNatClampNeg z.toNatClampNeg))) = cW E σ N (um M r1 (va_cpy (M r0) (M r1) sp.toNatClampNeg dp.toNatClampNeg z.toNatClampNeg)) := cW_set' _ (by rw [hσ1]; rfl)
  rw [ew] at hP1 hD1
  exact h _ rfl p e s m args below meth c H1 locs1 cells slots mc ms A lsr a ⟨hK, hP1, hD1, hS1, hA, hlv, hSC, hN, fun q => by cases q⟩ c1 c2
/-- what a method answers, and with which memory; the shape stays -/
def qI (σ : Nat → KD) (N : Nat) (P : Int32 → (Nat → Nat → Int32) → Prop) : PST := fun v σ' N' M' => ∃ x, v = some (.int x) ∧ σ' = σ ∧ N' = N ∧ P x M'
def qA (σ : Nat → KD) (N : Nat) (P : Int32 → (Nat → Nat → Int32) → Prop) : PST := fun v σ' N' M' => ∃ x, v = some (aR x) ∧ σ' = σ ∧ N' = N ∧ P x M'
def qV (σ : Nat → KD) (N : Nat) (P : (Nat → Nat → Int32) → Prop) : PST := fun v σ' N' M' => v = none ∧ σ' = σ ∧ N' = N ∧ P M'
theorem wp_cVi {J : MI} {idx d' r ci Nf na : Nat} {fk : List (Option (Option Nat))} {T : u_T} {As : List Value} {ws' : List Cond} {P : Int32 → (Nat → Nat → Int32) → Prop} {st0 : List Value}
    (hM : MW E J d' 0 0 false (.ref r :: As) σ N M (qI σ N P)) (hG : GoodIn (iW I) (wsV (iO I) idx (iO J) (iY J) (iW J))) (hJ : iW J = Cond.code (iY J) J.1 J.2.1 J.2.2.1 :: ws')
    (hy : (iY J).cls = iO J ∧ (iY J).cls ≠ "java/lang/invoke/MethodHandle" ∧ (iY J).cls ≠ "java/lang/invoke/VarHandle" ∧ (parseMethodDescriptor (iY J).desc).map (fun d => d.parameters.length) = some na) (hna : As.length = na)
    (hσ : σ r = .inr (ci, fk)) (hr : r < N) (hc : vwCl[ci]? = some (iO J, T, Nf)) (hdep : d' + 1 ≤ d) (hmx : J.2.1 ≤ 13) (hst : (st.map fun v => v.category).sum ≤ 8) (hs0 : st0 = As.reverse ++ .ref r :: st)
    (hd : decode I.1 pc = .ok (.invokevirtual idx, 3)) (kk : ∀ x M', P x M' → WP E I d 0 0 false (pc + 3) ls (.int x :: st) σ N M' Q) : WP E I d 0 0 false pc ls st0 σ N M Q :=
  by
  refine wp_callV (k' := 0) (n' := 0) (k'' := 0) (n'' := 0) hM hG hJ hy hna hσ hr hc hdep hmx hst hs0 rfl rfl hd ?_
  intro v σ' N' M' h
  obtain ⟨x, hv, h1, h2, h3⟩ := h
  rw [hv, h1, h2]
  exact kk x M' h3
theorem wp_cVa {J : MI} {idx d' r ci Nf na : Nat} {fk : List (Option (Option Nat))} {T : u_T} {As : List Value} {ws' : List Cond} {P : Int32 → (Nat → Nat → Int32) → Prop} {st0 : List Value}
    (hM : MW E J d' 0 0 false (.ref r :: As) σ N M (qA σ N P)) (hG : GoodIn (iW I) (wsV (iO I) idx (iO J) (iY J) (iW J))) (hJ : iW J = Cond.code (iY J) J.1 J.2.1 J.2.2.1 :: ws')
    (hy : (iY J).cls = iO J ∧ (iY J).cls ≠ "java/lang/invoke/MethodHandle" ∧ (iY J).cls ≠ "java/lang/invoke/VarHandle" ∧ (parseMethodDescriptor (iY J).desc).map (fun d => d.parameters.length) = some na) (hna : As.length = na)
    (hσ : σ r = .inr (ci, fk)) (hr : r < N) (hc : vwCl[ci]? = some (iO J, T, Nf)) (hdep : d' + 1 ≤ d) (hmx : J.2.1 ≤ 13) (hst : (st.map fun v => v.category).sum ≤ 8) (hs0 : st0 = As.reverse ++ .ref r :: st)
    (hd : decode I.1 pc = .ok (.invokevirtual idx, 3)) (kk : ∀ x M', P x M' → WP E I d 0 0 false (pc + 3) ls (aR x :: st) σ N M' Q) : WP E I d 0 0 false pc ls st0 σ N M Q :=
  by
  refine wp_callV (k' := 0) (n' := 0) (k'' := 0) (n'' := 0) hM hG hJ hy hna hσ hr hc hdep hmx hst hs0 rfl rfl hd ?_
  intro v σ' N' M' h
  obtain ⟨x, hv, h1, h2, h3⟩ := h
  rw [hv, h1, h2]
  exact kk x M' h3
theorem wp_cVv {J : MI} {idx d' r ci Nf na : Nat} {fk : List (Option (Option Nat))} {T : u_T} {As : List Value} {ws' : List Cond} {P : (Nat → Nat → Int32) → Prop} {st0 : List Value}
    (hM : MW E J d' 0 0 false (.ref r :: As) σ N M (qV σ N P)) (hG : GoodIn (iW I) (wsV (iO I) idx (iO J) (iY J) (iW J))) (hJ : iW J = Cond.code (iY J) J.1 J.2.1 J.2.2.1 :: ws')
    (hy : (iY J).cls = iO J ∧ (iY J).cls ≠ "java/lang/invoke/MethodHandle" ∧ (iY J).cls ≠ "java/lang/invoke/VarHandle" ∧ (parseMethodDescriptor (iY J).desc).map (fun d => d.parameters.length) = some na) (hna : As.length = na)
    (hσ : σ r = .inr (ci, fk)) (hr : r < N) (hc : vwCl[ci]? = some (iO J, T, Nf)) (hdep : d' + 1 ≤ d) (hmx : J.2.1 ≤ 13) (hst : (st.map fun v => v.category).sum ≤ 8) (hs0 : st0 = As.reverse ++ .ref r :: st)
    (hd : decode I.1 pc = .ok (.invokevirtual idx, 3)) (kk : ∀ M', P M' → WP E I d 0 0 false (pc + 3) ls (st) σ N M' Q) : WP E I d 0 0 false pc ls st0 σ N M Q :=
  by
  refine wp_callV (k' := 0) (n' := 0) (k'' := 0) (n'' := 0) hM hG hJ hy hna hσ hr hc hdep hmx hst hs0 rfl rfl hd ?_
  intro v σ' N' M' h
  obtain ⟨hv, h1, h2, h3⟩ := h
  rw [hv, h1, h2]
  exact kk M' h3
theorem wp_cSi {J : MI} {idx d' na : Nat} {As : List Value} {ws' : List Cond} {P : Int32 → (Nat → Nat → Int32) → Prop} {st0 : List Value}
    (hM : MW E J d' 0 0 false As σ N M (qI σ N P)) (hG : GoodIn (iW I) (va_wsS (iO I) idx (iY J) (iW J))) (hJ : iW J = Cond.code (iY J) J.1 J.2.1 J.2.2.1 :: ws')
    (hy : (iY J).cls ≠ "java/lang/invoke/MethodHandle" ∧ (iY J).cls ≠ "java/lang/invoke/VarHandle" ∧ (parseMethodDescriptor (iY J).desc).map (fun d => d.parameters.length) = some na) (hna : As.length = na)
    (hdep : d' + 1 ≤ d) (hmx : J.2.1 ≤ 13) (hst : (st.map fun v => v.category).sum ≤ 8) (hs0 : st0 = As.reverse ++ st)
    (hd : decode I.1 pc = .ok (.invokestatic idx, 3)) (kk : ∀ x M', P x M' → WP E I d 0 0 false (pc + 3) ls (.int x :: st) σ N M' Q) : WP E I d 0 0 false pc ls st0 σ N M Q :=
  by
  refine wp_callS (k' := 0) (n' := 0) (k'' := 0) (n'' := 0) hM hG hJ hy hna hdep hmx hst hs0 rfl rfl hd ?_
  intro v σ' N' M' h
  obtain ⟨x, hv, h1, h2, h3⟩ := h
  rw [hv, h1, h2]
  exact kk x M' h3
end WPC
theorem vil {i : Int32} {n : Nat} (h : (!(decide (i < 0)) && decide (i.toNatClampNeg < n)) = true) : vp_in i n := by
  simp only [Bool.and_eq_true, Bool.not_eq_true', decide_eq_false_iff_not, decide_eq_true_eq] at h
  exact fun q => q.elim h.1 (fun q => Nat.not_le.mpr h.2 q)
theorem aR_pos {x : Int32} (h : ¬ x < 0) : aR x = .ref x.toNatClampNeg := if_neg h
theorem aR_or (x : Int32) : aR x = .null ∨ ∃ r, aR x = .ref r := by
  unfold aR
  split
  · exact Or.inl rfl
  · exact Or.inr ⟨_, rfl⟩
def zb (v : Int32) : Prop := narrow .boolean (.int v) = .int v ∧ fits .boolean (.int v) = true
def zc (v : Int32) : Prop := narrow .char (.int v) = .int v
def FU : Nat := 1000
/-- the cells of a BendOrders object, of a reference object -/
def σC (k : Nat) : KD := match k with
  | 0 => .inr (6, [some (some 1), some (some 4), none, some (some 7), some (some 21), some (some 23), some (some 31)])
  | 1 => .inr (4, [none, none, none, none, none, some (some 2), some (some 3)])
  | 2 => .inl (0, 8, false)
  | 3 => .inl (0, 4, false)
  | 4 => .inr (4, [none, none, none, none, none, some (some 5), some (some 6)])
  | 5 => .inl (0, 8, false)
  | 6 => .inl (0, 4, false)
  | 7 => .inr (0, [none, some (some 8)])
  | 8 => .inl (3, 4, true)
  | 9 => .inr (4, [none, none, none, none, none, some (some 10), some (some 11)])
  | 10 => .inl (0, 8, false)
  | 11 => .inl (0, 4, false)
  | 12 => .inr (4, [none, none, none, none, none, some (some 13), some (some 14)])
  | 13 => .inl (0, 8, false)
  | 14 => .inl (0, 4, false)
  | 15 => .inr (4, [none, none, none, none, none, some (some 16), some (some 17)])
  | 16 => .inl (0, 8, false)
  | 17 => .inl (0, 4, false)
  | 18 => .inr (4, [none, none, none, none, none, some (some 19), some (some 20)])
  | 19 => .inl (0, 8, false)
  | 20 => .inl (0, 4, false)
  | 21 => .inr (5, [none, some (some 22)])
  | 22 => .inl (1, 60, false)
  | 23 => .inr (2, [some (some 24)])
  | 24 => .inr (3, [none, none, none, none, none, some (some 25), some (some 26), some (some 27), some (some 28), some (some 29), some (some 30)])
  | 31 => .inr (1, [some (some 32), some (some 40), none, some (some 43), some (some 44), some (some 45)])
  | 32 => .inr (2, [some (some 33)])
  | 33 => .inr (3, [none, none, none, none, none, some (some 34), some (some 35), some (some 36), some (some 37), some (some 38), some (some 39)])
  | 40 => .inr (4, [none, none, none, none, none, some (some 41), some (some 42)])
  | 41 => .inl (0, 8, false)
  | 42 => .inl (0, 4, false)
  | 43 => .inl (0, 128, false)
  | 44 => .inl (0, 128, false)
  | 45 => .inl (2, 128, false)
  | _ => .inl (0, 8, false)
def σM (k : Nat) : KD := match k with
  | 0 => .inr (7, [some (some 1), some (some 2), none, some (some 3), none, some (some 4), none, some (some 5), some (some 6), some (some 7), none, some (some 8), some (some 9)])
  | 1 => .inl (0, 23, false)
  | 2 => .inl (0, 92, false)
  | 3 => .inl (0, 23, false)
  | 4 => .inl (0, 60, false)
  | 5 => .inl (0, 80, false)
  | 6 => .inl (0, 80, false)
  | 7 => .inl (0, 80, false)
  | 8 => .inl (0, 128, false)
  | 9 => .inl (0, 128, false)
  | _ => .inl (0, 8, false)
abbrev isS (r : Nat) : Prop := r ∈ [1, 4, 9, 12, 15, 18, 40]
abbrev isH (r : Nat) : Prop := r ∈ [24, 33]
abbrev isP (r : Nat) : Prop := r ∈ [23, 32]
theorem isH_of {r : Nat} (h : isP r) : isH (r + 1) := by simp only [List.mem_cons, List.not_mem_nil, or_false] at h ⊢; omega
theorem σ_isS {r : Nat} (h : isS r) : σC r = .inr (4, [none, none, none, none, none, some (some (r + 1)), some (some (r + 2))]) := by
  simp only [List.mem_cons, List.not_mem_nil, or_false] at h
  rcases h with rfl | rfl | rfl | rfl | rfl | rfl | rfl <;> rfl
theorem σ_isS1 {r : Nat} (h : isS r) : σC (r + 1) = .inl (0, 8, false) := by
  simp only [List.mem_cons, List.not_mem_nil, or_false] at h
  rcases h with rfl | rfl | rfl | rfl | rfl | rfl | rfl <;> rfl
theorem σ_isS2 {r : Nat} (h : isS r) : σC (r + 2) = .inl (0, 4, false) := by
  simp only [List.mem_cons, List.not_mem_nil, or_false] at h
  rcases h with rfl | rfl | rfl | rfl | rfl | rfl | rfl <;> rfl
theorem lt_isS {r : Nat} (h : isS r) : r < 46 := by simp only [List.mem_cons, List.not_mem_nil, or_false] at h; omega
theorem lt_isS1 {r : Nat} (h : isS r) : r + 1 < 46 := by simp only [List.mem_cons, List.not_mem_nil, or_false] at h; omega
theorem lt_isS2 {r : Nat} (h : isS r) : r + 2 < 46 := by simp only [List.mem_cons, List.not_mem_nil, or_false] at h; omega
theorem σ_isH {r : Nat} (h : isH r) : σC r = .inr (3, [none, none, none, none, none, some (some (r + 1)), some (some (r + 2)), some (some (r + 3)), some (some (r + 4)), some (some (r + 5)), some (some (r + 6))]) := by
  simp only [List.mem_cons, List.not_mem_nil, or_false] at h
  rcases h with rfl | rfl <;> rfl
theorem lt_isH {r : Nat} (h : isH r) : r < 46 := by simp only [List.mem_cons, List.not_mem_nil, or_false] at h; omega
theorem σ_isP {r : Nat} (h : isP r) : σC r = .inr (2, [some (some (r + 1))]) := by
  simp only [List.mem_cons, List.not_mem_nil, or_false] at h
  rcases h with rfl | rfl <;> rfl
theorem lt_isP {r : Nat} (h : isP r) : r < 46 := by simp only [List.mem_cons, List.not_mem_nil, or_false] at h; omega
theorem σ_isH1 {r : Nat} (h : isH r) : σC (r + 1) = .inl (0, 8, false) := by
  simp only [List.mem_cons, List.not_mem_nil, or_false] at h
  rcases h with rfl | rfl <;> rfl
theorem lt_isH1 {r : Nat} (h : isH r) : r + 1 < 46 := by simp only [List.mem_cons, List.not_mem_nil, or_false] at h; omega
theorem σ_isH2 {r : Nat} (h : isH r) : σC (r + 2) = .inl (0, 8, false) := by
  simp only [List.mem_cons, List.not_mem_nil, or_false] at h
  rcases h with rfl | rfl <;> rfl
theorem lt_isH2 {r : Nat} (h : isH r) : r + 2 < 46 := by simp only [List.mem_cons, List.not_mem_nil, or_false] at h; omega
theorem σ_isH3 {r : Nat} (h : isH r) : σC (r + 3) = .inl (0, 8, false) := by
  simp only [List.mem_cons, List.not_mem_nil, or_false] at h
  rcases h with rfl | rfl <;> rfl
theorem lt_isH3 {r : Nat} (h : isH r) : r + 3 < 46 := by simp only [List.mem_cons, List.not_mem_nil, or_false] at h; omega
theorem σ_isH4 {r : Nat} (h : isH r) : σC (r + 4) = .inl (0, 8, false) := by
  simp only [List.mem_cons, List.not_mem_nil, or_false] at h
  rcases h with rfl | rfl <;> rfl
theorem lt_isH4 {r : Nat} (h : isH r) : r + 4 < 46 := by simp only [List.mem_cons, List.not_mem_nil, or_false] at h; omega
theorem σ_isH5 {r : Nat} (h : isH r) : σC (r + 5) = .inl (0, 8, false) := by
  simp only [List.mem_cons, List.not_mem_nil, or_false] at h
  rcases h with rfl | rfl <;> rfl
theorem lt_isH5 {r : Nat} (h : isH r) : r + 5 < 46 := by simp only [List.mem_cons, List.not_mem_nil, or_false] at h; omega
theorem σ_isH6 {r : Nat} (h : isH r) : σC (r + 6) = .inl (0, 8, false) := by
  simp only [List.mem_cons, List.not_mem_nil, or_false] at h
  rcases h with rfl | rfl <;> rfl
theorem lt_isH6 {r : Nat} (h : isH r) : r + 6 < 46 := by simp only [List.mem_cons, List.not_mem_nil, or_false] at h; omega
end
section
set_option maxRecDepth 20000 in
theorem ggX0_init_X4_init : GoodIn wsX0_init wsX4_init := goodIn_r _ [11, 12, 2, 3, 13, 14, 15, 16, 17, 18, 19, 20, 21, 22, 23, 24, 27, 28, 29, 30, 31, 32, 33] (by decide +kernel) (by decide +kernel)
set_option maxRecDepth 20000 in
theorem gX0_init_X4_init : GoodIn wsX0_init (wsX4_init) := ggX0_init_X4_init
theorem dX0_init_0 : decode cX0_init 0 = .ok (.aload_n 0, 1) := by decide +kernel
theorem dX0_init_1 : decode cX0_init 1 = .ok (.invokespecial 3, 3) := by decide +kernel
theorem dX0_init_4 : decode cX0_init 4 = .ok (.aload_n 0, 1) := by decide +kernel
theorem dX0_init_5 : decode cX0_init 5 = .ok (.iconst 0, 1) := by decide +kernel
theorem dX0_init_6 : decode cX0_init 6 = .ok (.putfield 9, 3) := by decide +kernel
theorem dX0_init_9 : decode cX0_init 9 = .ok (.aload_n 0, 1) := by decide +kernel
theorem dX0_init_10 : decode cX0_init 10 = .ok (.iconst 4, 1) := by decide +kernel
theorem dX0_init_11 : decode cX0_init 11 = .ok (.anewarray 15, 3) := by decide +kernel
theorem dX0_init_14 : decode cX0_init 14 = .ok (.putfield 17, 3) := by decide +kernel
theorem dX0_init_17 : decode cX0_init 17 = .ok (.iconst 0, 1) := by decide +kernel
theorem dX0_init_18 : decode cX0_init 18 = .ok (.istore_n 1, 1) := by decide +kernel
theorem dX0_init_19 : decode cX0_init 19 = .ok (.iload_n 1, 1) := by decide +kernel
theorem dX0_init_20 : decode cX0_init 20 = .ok (.aload_n 0, 1) := by decide +kernel
theorem dX0_init_21 : decode cX0_init 21 = .ok (.getfield 17, 3) := by decide +kernel
theorem dX0_init_24 : decode cX0_init 24 = .ok (.arraylength, 1) := by decide +kernel
theorem dX0_init_25 : decode cX0_init 25 = .ok (.if_icmp .ge 22, 3) := by decide +kernel
theorem dX0_init_28 : decode cX0_init 28 = .ok (.aload_n 0, 1) := by decide +kernel
theorem dX0_init_29 : decode cX0_init 29 = .ok (.getfield 17, 3) := by decide +kernel
theorem dX0_init_32 : decode cX0_init 32 = .ok (.iload_n 1, 1) := by decide +kernel
theorem dX0_init_33 : decode cX0_init 33 = .ok (.new 15, 3) := by decide +kernel
theorem dX0_init_36 : decode cX0_init 36 = .ok (.dup, 1) := by decide +kernel
theorem dX0_init_37 : decode cX0_init 37 = .ok (.invokespecial 21, 3) := by decide +kernel
theorem dX0_init_40 : decode cX0_init 40 = .ok (.aastore, 1) := by decide +kernel
theorem dX0_init_41 : decode cX0_init 41 = .ok (.iinc 1 1, 3) := by decide +kernel
theorem dX0_init_44 : decode cX0_init 44 = .ok (.goto (-25), 3) := by decide +kernel
theorem dX0_init_47 : decode cX0_init 47 = .ok (.return_, 1) := by decide +kernel
set_option maxRecDepth 20000 in
theorem ggX0_record_X0_dropOldest : GoodIn wsX0_record wsX0_dropOldest := goodIn_r _ [7, 2, 1, 8, 9, 10, 6, 11, 28, 29] (by decide +kernel) (by decide +kernel)
set_option maxRecDepth 20000 in
theorem gX0_record_X0_dropOldest : GoodIn wsX0_record (wsV RX0 22 RX0 yX0_dropOldest wsX0_dropOldest) := goodIn_app (goodIn_of _ (by decide +kernel)) ggX0_record_X0_dropOldest
set_option maxRecDepth 20000 in
theorem ggX0_record_X0_rowAt : GoodIn wsX0_record wsX0_rowAt := goodIn_r _ [11, 2, 28, 29] (by decide +kernel) (by decide +kernel)
set_option maxRecDepth 20000 in
theorem gX0_record_X0_rowAt : GoodIn wsX0_record (wsV RX0 25 RX0 yX0_rowAt wsX0_rowAt) := goodIn_app (goodIn_of _ (by decide +kernel)) ggX0_record_X0_rowAt
set_option maxRecDepth 20000 in
theorem ggX0_record_X4_copyFrom : GoodIn wsX0_record wsX4_copyFrom := goodIn_r _ [16, 17, 18, 19, 20, 21, 22, 23, 24, 25, 26, 27, 30, 31, 32, 33, 34, 35, 36] (by decide +kernel) (by decide +kernel)
set_option maxRecDepth 20000 in
theorem gX0_record_X4_copyFrom : GoodIn wsX0_record (wsV RX0 29 RX4 yX4_copyFrom wsX4_copyFrom) := goodIn_app (goodIn_of _ (by decide +kernel)) ggX0_record_X4_copyFrom
theorem dX0_record_0 : decode cX0_record 0 = .ok (.aload_n 0, 1) := by decide +kernel
theorem dX0_record_1 : decode cX0_record 1 = .ok (.getfield 9, 3) := by decide +kernel
theorem dX0_record_4 : decode cX0_record 4 = .ok (.aload_n 0, 1) := by decide +kernel
theorem dX0_record_5 : decode cX0_record 5 = .ok (.getfield 17, 3) := by decide +kernel
theorem dX0_record_8 : decode cX0_record 8 = .ok (.arraylength, 1) := by decide +kernel
theorem dX0_record_9 : decode cX0_record 9 = .ok (.if_icmp .lt 7, 3) := by decide +kernel
theorem dX0_record_12 : decode cX0_record 12 = .ok (.aload_n 0, 1) := by decide +kernel
theorem dX0_record_13 : decode cX0_record 13 = .ok (.invokevirtual 22, 3) := by decide +kernel
theorem dX0_record_16 : decode cX0_record 16 = .ok (.aload_n 0, 1) := by decide +kernel
theorem dX0_record_17 : decode cX0_record 17 = .ok (.aload_n 0, 1) := by decide +kernel
theorem dX0_record_18 : decode cX0_record 18 = .ok (.getfield 9, 3) := by decide +kernel
theorem dX0_record_21 : decode cX0_record 21 = .ok (.invokevirtual 25, 3) := by decide +kernel
theorem dX0_record_24 : decode cX0_record 24 = .ok (.astore_n 2, 1) := by decide +kernel
theorem dX0_record_25 : decode cX0_record 25 = .ok (.aload_n 2, 1) := by decide +kernel
theorem dX0_record_26 : decode cX0_record 26 = .ok (.ifnull 18, 3) := by decide +kernel
theorem dX0_record_29 : decode cX0_record 29 = .ok (.aload_n 2, 1) := by decide +kernel
theorem dX0_record_30 : decode cX0_record 30 = .ok (.aload_n 1, 1) := by decide +kernel
theorem dX0_record_31 : decode cX0_record 31 = .ok (.invokevirtual 29, 3) := by decide +kernel
theorem dX0_record_34 : decode cX0_record 34 = .ok (.aload_n 0, 1) := by decide +kernel
theorem dX0_record_35 : decode cX0_record 35 = .ok (.dup, 1) := by decide +kernel
theorem dX0_record_36 : decode cX0_record 36 = .ok (.getfield 9, 3) := by decide +kernel
theorem dX0_record_39 : decode cX0_record 39 = .ok (.iconst 1, 1) := by decide +kernel
theorem dX0_record_40 : decode cX0_record 40 = .ok (.iadd, 1) := by decide +kernel
theorem dX0_record_41 : decode cX0_record 41 = .ok (.putfield 9, 3) := by decide +kernel
theorem dX0_record_44 : decode cX0_record 44 = .ok (.return_, 1) := by decide +kernel
set_option maxRecDepth 20000 in
theorem ggX0_takeBack_X0_rowAt : GoodIn wsX0_takeBack wsX0_rowAt := goodIn_r _ [6, 7, 24, 25] (by decide +kernel) (by decide +kernel)
set_option maxRecDepth 20000 in
theorem gX0_takeBack_X0_rowAt : GoodIn wsX0_takeBack (wsV RX0 25 RX0 yX0_rowAt wsX0_rowAt) := goodIn_app (goodIn_of _ (by decide +kernel)) ggX0_takeBack_X0_rowAt
set_option maxRecDepth 20000 in
theorem ggX0_takeBack_X4_copyFrom : GoodIn wsX0_takeBack wsX4_copyFrom := goodIn_r _ [12, 13, 14, 15, 16, 17, 18, 19, 20, 21, 22, 23, 26, 27, 28, 29, 30, 31, 32] (by decide +kernel) (by decide +kernel)
set_option maxRecDepth 20000 in
theorem gX0_takeBack_X4_copyFrom : GoodIn wsX0_takeBack (wsV RX0 29 RX4 yX4_copyFrom wsX4_copyFrom) := goodIn_app (goodIn_of _ (by decide +kernel)) ggX0_takeBack_X4_copyFrom
theorem dX0_takeBack_0 : decode cX0_takeBack 0 = .ok (.aload_n 0, 1) := by decide +kernel
theorem dX0_takeBack_1 : decode cX0_takeBack 1 = .ok (.aload_n 0, 1) := by decide +kernel
theorem dX0_takeBack_2 : decode cX0_takeBack 2 = .ok (.getfield 9, 3) := by decide +kernel
theorem dX0_takeBack_5 : decode cX0_takeBack 5 = .ok (.iconst 1, 1) := by decide +kernel
theorem dX0_takeBack_6 : decode cX0_takeBack 6 = .ok (.isub, 1) := by decide +kernel
theorem dX0_takeBack_7 : decode cX0_takeBack 7 = .ok (.invokevirtual 25, 3) := by decide +kernel
theorem dX0_takeBack_10 : decode cX0_takeBack 10 = .ok (.astore_n 2, 1) := by decide +kernel
theorem dX0_takeBack_11 : decode cX0_takeBack 11 = .ok (.aload_n 2, 1) := by decide +kernel
theorem dX0_takeBack_12 : decode cX0_takeBack 12 = .ok (.ifnull 18, 3) := by decide +kernel
theorem dX0_takeBack_15 : decode cX0_takeBack 15 = .ok (.aload_n 1, 1) := by decide +kernel
theorem dX0_takeBack_16 : decode cX0_takeBack 16 = .ok (.aload_n 2, 1) := by decide +kernel
theorem dX0_takeBack_17 : decode cX0_takeBack 17 = .ok (.invokevirtual 29, 3) := by decide +kernel
theorem dX0_takeBack_20 : decode cX0_takeBack 20 = .ok (.aload_n 0, 1) := by decide +kernel
theorem dX0_takeBack_21 : decode cX0_takeBack 21 = .ok (.dup, 1) := by decide +kernel
theorem dX0_takeBack_22 : decode cX0_takeBack 22 = .ok (.getfield 9, 3) := by decide +kernel
theorem dX0_takeBack_25 : decode cX0_takeBack 25 = .ok (.iconst 1, 1) := by decide +kernel
theorem dX0_takeBack_26 : decode cX0_takeBack 26 = .ok (.isub, 1) := by decide +kernel
theorem dX0_takeBack_27 : decode cX0_takeBack 27 = .ok (.putfield 9, 3) := by decide +kernel
theorem dX0_takeBack_30 : decode cX0_takeBack 30 = .ok (.return_, 1) := by decide +kernel
set_option maxRecDepth 20000 in
theorem ggX0_dropOldest_X0_rowAt : GoodIn wsX0_dropOldest wsX0_rowAt := goodIn_r _ [7, 1, 8, 9] (by decide +kernel) (by decide +kernel)
set_option maxRecDepth 20000 in
theorem gX0_dropOldest_X0_rowAt : GoodIn wsX0_dropOldest (wsV RX0 25 RX0 yX0_rowAt wsX0_rowAt) := goodIn_app (goodIn_of _ (by decide +kernel)) ggX0_dropOldest_X0_rowAt
theorem dX0_dropOldest_0 : decode cX0_dropOldest 0 = .ok (.aload_n 0, 1) := by decide +kernel
theorem dX0_dropOldest_1 : decode cX0_dropOldest 1 = .ok (.iconst 0, 1) := by decide +kernel
theorem dX0_dropOldest_2 : decode cX0_dropOldest 2 = .ok (.invokevirtual 25, 3) := by decide +kernel
theorem dX0_dropOldest_5 : decode cX0_dropOldest 5 = .ok (.astore_n 1, 1) := by decide +kernel
theorem dX0_dropOldest_6 : decode cX0_dropOldest 6 = .ok (.iconst 1, 1) := by decide +kernel
theorem dX0_dropOldest_7 : decode cX0_dropOldest 7 = .ok (.istore_n 2, 1) := by decide +kernel
theorem dX0_dropOldest_8 : decode cX0_dropOldest 8 = .ok (.iload_n 2, 1) := by decide +kernel
theorem dX0_dropOldest_9 : decode cX0_dropOldest 9 = .ok (.aload_n 0, 1) := by decide +kernel
theorem dX0_dropOldest_10 : decode cX0_dropOldest 10 = .ok (.getfield 17, 3) := by decide +kernel
theorem dX0_dropOldest_13 : decode cX0_dropOldest 13 = .ok (.arraylength, 1) := by decide +kernel
theorem dX0_dropOldest_14 : decode cX0_dropOldest 14 = .ok (.if_icmp .ge 23, 3) := by decide +kernel
theorem dX0_dropOldest_17 : decode cX0_dropOldest 17 = .ok (.aload_n 0, 1) := by decide +kernel
theorem dX0_dropOldest_18 : decode cX0_dropOldest 18 = .ok (.getfield 17, 3) := by decide +kernel
theorem dX0_dropOldest_21 : decode cX0_dropOldest 21 = .ok (.iload_n 2, 1) := by decide +kernel
theorem dX0_dropOldest_22 : decode cX0_dropOldest 22 = .ok (.iconst 1, 1) := by decide +kernel
theorem dX0_dropOldest_23 : decode cX0_dropOldest 23 = .ok (.isub, 1) := by decide +kernel
theorem dX0_dropOldest_24 : decode cX0_dropOldest 24 = .ok (.aload_n 0, 1) := by decide +kernel
theorem dX0_dropOldest_25 : decode cX0_dropOldest 25 = .ok (.getfield 17, 3) := by decide +kernel
theorem dX0_dropOldest_28 : decode cX0_dropOldest 28 = .ok (.iload_n 2, 1) := by decide +kernel
theorem dX0_dropOldest_29 : decode cX0_dropOldest 29 = .ok (.aaload, 1) := by decide +kernel
theorem dX0_dropOldest_30 : decode cX0_dropOldest 30 = .ok (.aastore, 1) := by decide +kernel
theorem dX0_dropOldest_31 : decode cX0_dropOldest 31 = .ok (.iinc 2 1, 3) := by decide +kernel
theorem dX0_dropOldest_34 : decode cX0_dropOldest 34 = .ok (.goto (-26), 3) := by decide +kernel
theorem dX0_dropOldest_37 : decode cX0_dropOldest 37 = .ok (.aload_n 0, 1) := by decide +kernel
theorem dX0_dropOldest_38 : decode cX0_dropOldest 38 = .ok (.aload_n 0, 1) := by decide +kernel
theorem dX0_dropOldest_39 : decode cX0_dropOldest 39 = .ok (.getfield 17, 3) := by decide +kernel
theorem dX0_dropOldest_42 : decode cX0_dropOldest 42 = .ok (.arraylength, 1) := by decide +kernel
theorem dX0_dropOldest_43 : decode cX0_dropOldest 43 = .ok (.iconst 1, 1) := by decide +kernel
theorem dX0_dropOldest_44 : decode cX0_dropOldest 44 = .ok (.isub, 1) := by decide +kernel
theorem dX0_dropOldest_45 : decode cX0_dropOldest 45 = .ok (.putfield 9, 3) := by decide +kernel
theorem dX0_dropOldest_48 : decode cX0_dropOldest 48 = .ok (.aload_n 0, 1) := by decide +kernel
theorem dX0_dropOldest_49 : decode cX0_dropOldest 49 = .ok (.getfield 17, 3) := by decide +kernel
theorem dX0_dropOldest_52 : decode cX0_dropOldest 52 = .ok (.aload_n 0, 1) := by decide +kernel
theorem dX0_dropOldest_53 : decode cX0_dropOldest 53 = .ok (.getfield 9, 3) := by decide +kernel
theorem dX0_dropOldest_56 : decode cX0_dropOldest 56 = .ok (.aload_n 1, 1) := by decide +kernel
theorem dX0_dropOldest_57 : decode cX0_dropOldest 57 = .ok (.aastore, 1) := by decide +kernel
theorem dX0_dropOldest_58 : decode cX0_dropOldest 58 = .ok (.return_, 1) := by decide +kernel
theorem dX0_rowAt_0 : decode cX0_rowAt 0 = .ok (.iload_n 1, 1) := by decide +kernel
theorem dX0_rowAt_1 : decode cX0_rowAt 1 = .ok (.ifCond .lt 21, 3) := by decide +kernel
theorem dX0_rowAt_4 : decode cX0_rowAt 4 = .ok (.iload_n 1, 1) := by decide +kernel
theorem dX0_rowAt_5 : decode cX0_rowAt 5 = .ok (.aload_n 0, 1) := by decide +kernel
theorem dX0_rowAt_6 : decode cX0_rowAt 6 = .ok (.getfield 17, 3) := by decide +kernel
theorem dX0_rowAt_9 : decode cX0_rowAt 9 = .ok (.arraylength, 1) := by decide +kernel
theorem dX0_rowAt_10 : decode cX0_rowAt 10 = .ok (.if_icmp .ge 12, 3) := by decide +kernel
theorem dX0_rowAt_13 : decode cX0_rowAt 13 = .ok (.aload_n 0, 1) := by decide +kernel
theorem dX0_rowAt_14 : decode cX0_rowAt 14 = .ok (.getfield 17, 3) := by decide +kernel
theorem dX0_rowAt_17 : decode cX0_rowAt 17 = .ok (.iload_n 1, 1) := by decide +kernel
theorem dX0_rowAt_18 : decode cX0_rowAt 18 = .ok (.aaload, 1) := by decide +kernel
theorem dX0_rowAt_19 : decode cX0_rowAt 19 = .ok (.goto 4, 3) := by decide +kernel
theorem dX0_rowAt_22 : decode cX0_rowAt 22 = .ok (.aconst_null, 1) := by decide +kernel
theorem dX0_rowAt_23 : decode cX0_rowAt 23 = .ok (.areturn, 1) := by decide +kernel
set_option maxRecDepth 20000 in
theorem ggX1_init_X2_init : GoodIn wsX1_init wsX2_init := goodIn_r _ [20, 21, 2, 3, 22, 23, 24, 25, 26, 27, 28, 29, 13, 30, 31, 32, 33, 34, 35, 65, 66, 67, 68, 69, 70, 71, 72, 73, 74, 75, 51] (by decide +kernel) (by decide +kernel)
set_option maxRecDepth 20000 in
theorem gX1_init_X2_init : GoodIn wsX1_init (wsX2_init) := ggX1_init_X2_init
set_option maxRecDepth 20000 in
theorem ggX1_init_X4_init : GoodIn wsX1_init wsX4_init := goodIn_r _ [38, 39, 2, 3, 40, 41, 42, 43, 44, 13, 45, 46, 47, 48, 49, 50, 58, 59, 60, 61, 62, 63, 64] (by decide +kernel) (by decide +kernel)
set_option maxRecDepth 20000 in
theorem gX1_init_X4_init : GoodIn wsX1_init (wsX4_init) := ggX1_init_X4_init
theorem dX1_init_0 : decode cX1_init 0 = .ok (.aload_n 0, 1) := by decide +kernel
theorem dX1_init_1 : decode cX1_init 1 = .ok (.invokespecial 3, 3) := by decide +kernel
theorem dX1_init_4 : decode cX1_init 4 = .ok (.aload_n 0, 1) := by decide +kernel
theorem dX1_init_5 : decode cX1_init 5 = .ok (.new 9, 3) := by decide +kernel
theorem dX1_init_8 : decode cX1_init 8 = .ok (.dup, 1) := by decide +kernel
theorem dX1_init_9 : decode cX1_init 9 = .ok (.invokespecial 11, 3) := by decide +kernel
theorem dX1_init_12 : decode cX1_init 12 = .ok (.putfield 12, 3) := by decide +kernel
theorem dX1_init_15 : decode cX1_init 15 = .ok (.aload_n 0, 1) := by decide +kernel
theorem dX1_init_16 : decode cX1_init 16 = .ok (.new 18, 3) := by decide +kernel
theorem dX1_init_19 : decode cX1_init 19 = .ok (.dup, 1) := by decide +kernel
theorem dX1_init_20 : decode cX1_init 20 = .ok (.invokespecial 20, 3) := by decide +kernel
theorem dX1_init_23 : decode cX1_init 23 = .ok (.putfield 21, 3) := by decide +kernel
theorem dX1_init_26 : decode cX1_init 26 = .ok (.aload_n 0, 1) := by decide +kernel
theorem dX1_init_27 : decode cX1_init 27 = .ok (.iconst 0, 1) := by decide +kernel
theorem dX1_init_28 : decode cX1_init 28 = .ok (.putfield 25, 3) := by decide +kernel
theorem dX1_init_31 : decode cX1_init 31 = .ok (.aload_n 0, 1) := by decide +kernel
theorem dX1_init_32 : decode cX1_init 32 = .ok (.sipush 128, 3) := by decide +kernel
theorem dX1_init_35 : decode cX1_init 35 = .ok (.newarray .int, 2) := by decide +kernel
theorem dX1_init_37 : decode cX1_init 37 = .ok (.putfield 29, 3) := by decide +kernel
theorem dX1_init_40 : decode cX1_init 40 = .ok (.aload_n 0, 1) := by decide +kernel
theorem dX1_init_41 : decode cX1_init 41 = .ok (.sipush 128, 3) := by decide +kernel
theorem dX1_init_44 : decode cX1_init 44 = .ok (.newarray .int, 2) := by decide +kernel
theorem dX1_init_46 : decode cX1_init 46 = .ok (.putfield 33, 3) := by decide +kernel
theorem dX1_init_49 : decode cX1_init 49 = .ok (.aload_n 0, 1) := by decide +kernel
theorem dX1_init_50 : decode cX1_init 50 = .ok (.sipush 128, 3) := by decide +kernel
theorem dX1_init_53 : decode cX1_init 53 = .ok (.newarray .boolean, 2) := by decide +kernel
theorem dX1_init_55 : decode cX1_init 55 = .ok (.putfield 36, 3) := by decide +kernel
theorem dX1_init_58 : decode cX1_init 58 = .ok (.return_, 1) := by decide +kernel
set_option maxRecDepth 20000 in
theorem ggX1_prepare_X4_bendsLike : GoodIn wsX1_prepare wsX4_bendsLike := goodIn_r _ [12, 13, 14, 15, 16, 17, 11, 18, 19, 20, 21, 22, 23, 24, 128, 129, 130, 131, 132, 133, 134] (by decide +kernel) (by decide +kernel)
set_option maxRecDepth 20000 in
theorem gX1_prepare_X4_bendsLike : GoodIn wsX1_prepare (wsV RX1 40 RX4 yX4_bendsLike wsX4_bendsLike) := goodIn_app (goodIn_of _ (by decide +kernel)) ggX1_prepare_X4_bendsLike
set_option maxRecDepth 20000 in
theorem ggX1_prepare_X4_copyFrom : GoodIn wsX1_prepare wsX4_copyFrom := goodIn_r _ [28, 13, 14, 29, 30, 31, 19, 32, 33, 34, 35, 24, 128, 129, 130, 131, 132, 133, 134] (by decide +kernel) (by decide +kernel)
set_option maxRecDepth 20000 in
theorem gX1_prepare_X4_copyFrom : GoodIn wsX1_prepare (wsV RX1 44 RX4 yX4_copyFrom wsX4_copyFrom) := goodIn_app (goodIn_of _ (by decide +kernel)) ggX1_prepare_X4_copyFrom
set_option maxRecDepth 20000 in
theorem ggX1_prepare_X4_allBends : GoodIn wsX1_prepare wsX4_allBends := goodIn_r _ [39, 13, 128, 129, 130, 131, 132, 133, 134] (by decide +kernel) (by decide +kernel)
set_option maxRecDepth 20000 in
theorem gX1_prepare_X4_allBends : GoodIn wsX1_prepare (wsV RX1 48 RX4 yX4_allBends wsX4_allBends) := goodIn_app (goodIn_of _ (by decide +kernel)) ggX1_prepare_X4_allBends
set_option maxRecDepth 20000 in
theorem ggX1_prepare_X1_fillRow : GoodIn wsX1_prepare wsX1_fillRow := goodIn_r _ [44, 2, 45, 46, 3, 47, 48, 49, 50, 43, 51, 52, 53, 54, 11, 55, 14, 56, 57, 58, 59, 60, 61, 62, 63, 64, 65, 66, 13, 15, 16, 17, 18, 19, 67, 21, 22, 23, 24, 68, 69, 70, 71, 72, 73, 74, 5, 6, 7, 75, 76, 77, 78, 79, 80, 81, 82, 83, 84, 85, 86, 87, 88, 89, 90, 91, 92, 93, 94, 95, 96, 97, 98, 99, 100, 101, 102, 103, 104, 105, 106, 107, 108, 109, 110, 111, 112, 113, 114, 115, 116, 117, 118, 119, 120, 121, 122, 123, 124, 125, 126, 127, 128, 129, 130, 131, 132, 133, 134, 135, 136, 137, 138, 139, 140, 141, 142, 143, 144, 145, 146] (by decide +kernel) (by decide +kernel)
set_option maxRecDepth 20000 in
theorem gX1_prepare_X1_fillRow : GoodIn wsX1_prepare (wsV RX1 58 RX1 yX1_fillRow wsX1_fillRow) := goodIn_app (goodIn_of _ (by decide +kernel)) ggX1_prepare_X1_fillRow
theorem dX1_prepare_0 : decode cX1_prepare 0 = .ok (.aload_n 0, 1) := by decide +kernel
theorem dX1_prepare_1 : decode cX1_prepare 1 = .ok (.getfield 25, 3) := by decide +kernel
theorem dX1_prepare_4 : decode cX1_prepare 4 = .ok (.ifCond .eq 15, 3) := by decide +kernel
theorem dX1_prepare_7 : decode cX1_prepare 7 = .ok (.aload_n 0, 1) := by decide +kernel
theorem dX1_prepare_8 : decode cX1_prepare 8 = .ok (.getfield 21, 3) := by decide +kernel
theorem dX1_prepare_11 : decode cX1_prepare 11 = .ok (.aload_n 1, 1) := by decide +kernel
theorem dX1_prepare_12 : decode cX1_prepare 12 = .ok (.invokevirtual 40, 3) := by decide +kernel
theorem dX1_prepare_15 : decode cX1_prepare 15 = .ok (.ifCond .eq 4, 3) := by decide +kernel
theorem dX1_prepare_18 : decode cX1_prepare 18 = .ok (.return_, 1) := by decide +kernel
theorem dX1_prepare_19 : decode cX1_prepare 19 = .ok (.aload_n 0, 1) := by decide +kernel
theorem dX1_prepare_20 : decode cX1_prepare 20 = .ok (.getfield 21, 3) := by decide +kernel
theorem dX1_prepare_23 : decode cX1_prepare 23 = .ok (.aload_n 1, 1) := by decide +kernel
theorem dX1_prepare_24 : decode cX1_prepare 24 = .ok (.invokevirtual 44, 3) := by decide +kernel
theorem dX1_prepare_27 : decode cX1_prepare 27 = .ok (.aload_n 0, 1) := by decide +kernel
theorem dX1_prepare_28 : decode cX1_prepare 28 = .ok (.getfield 21, 3) := by decide +kernel
theorem dX1_prepare_31 : decode cX1_prepare 31 = .ok (.invokevirtual 48, 3) := by decide +kernel
theorem dX1_prepare_34 : decode cX1_prepare 34 = .ok (.istore_n 2, 1) := by decide +kernel
theorem dX1_prepare_35 : decode cX1_prepare 35 = .ok (.iload_n 2, 1) := by decide +kernel
theorem dX1_prepare_36 : decode cX1_prepare 36 = .ok (.aload_n 0, 1) := by decide +kernel
theorem dX1_prepare_37 : decode cX1_prepare 37 = .ok (.getfield 29, 3) := by decide +kernel
theorem dX1_prepare_40 : decode cX1_prepare 40 = .ok (.arraylength, 1) := by decide +kernel
theorem dX1_prepare_41 : decode cX1_prepare 41 = .ok (.iconst 1, 1) := by decide +kernel
theorem dX1_prepare_42 : decode cX1_prepare 42 = .ok (.isub, 1) := by decide +kernel
theorem dX1_prepare_43 : decode cX1_prepare 43 = .ok (.invokestatic 52, 3) := by decide +kernel
theorem dX1_prepare_46 : decode cX1_prepare 46 = .ok (.istore_n 3, 1) := by decide +kernel
theorem dX1_prepare_47 : decode cX1_prepare 47 = .ok (.iload_n 3, 1) := by decide +kernel
theorem dX1_prepare_48 : decode cX1_prepare 48 = .ok (.ifCond .lt 15, 3) := by decide +kernel
theorem dX1_prepare_51 : decode cX1_prepare 51 = .ok (.aload_n 0, 1) := by decide +kernel
theorem dX1_prepare_52 : decode cX1_prepare 52 = .ok (.iload_n 3, 1) := by decide +kernel
theorem dX1_prepare_53 : decode cX1_prepare 53 = .ok (.iload_n 2, 1) := by decide +kernel
theorem dX1_prepare_54 : decode cX1_prepare 54 = .ok (.invokevirtual 58, 3) := by decide +kernel
theorem dX1_prepare_57 : decode cX1_prepare 57 = .ok (.iinc 3 (-1), 3) := by decide +kernel
theorem dX1_prepare_60 : decode cX1_prepare 60 = .ok (.goto (-13), 3) := by decide +kernel
theorem dX1_prepare_63 : decode cX1_prepare 63 = .ok (.aload_n 0, 1) := by decide +kernel
theorem dX1_prepare_64 : decode cX1_prepare 64 = .ok (.iconst 1, 1) := by decide +kernel
theorem dX1_prepare_65 : decode cX1_prepare 65 = .ok (.putfield 25, 3) := by decide +kernel
theorem dX1_prepare_68 : decode cX1_prepare 68 = .ok (.return_, 1) := by decide +kernel
set_option maxRecDepth 20000 in
theorem ggX1_fillRow_X1_waysFrom : GoodIn wsX1_fillRow wsX1_waysFrom := goodIn_r _ [10, 4, 96, 97, 98, 99, 100, 101] (by decide +kernel) (by decide +kernel)
set_option maxRecDepth 20000 in
theorem gX1_fillRow_X1_waysFrom : GoodIn wsX1_fillRow (wsV RX1 66 RX1 yX1_waysFrom wsX1_waysFrom) := goodIn_app (goodIn_of _ (by decide +kernel)) ggX1_fillRow_X1_waysFrom
set_option maxRecDepth 20000 in
theorem ggX1_fillRow_X4_isUp : GoodIn wsX1_fillRow wsX4_isUp := goodIn_r _ [15, 16, 102, 103, 104, 105, 106, 107, 108] (by decide +kernel) (by decide +kernel)
set_option maxRecDepth 20000 in
theorem gX1_fillRow_X4_isUp : GoodIn wsX1_fillRow (wsV RX1 70 RX4 yX4_isUp wsX4_isUp) := goodIn_app (goodIn_of _ (by decide +kernel)) ggX1_fillRow_X4_isUp
set_option maxRecDepth 20000 in
theorem ggX1_fillRow_X2_reason : GoodIn wsX1_fillRow wsX2_reason := goodIn_r _ [21, 22, 23, 12, 13, 14, 15, 16, 24, 25, 26, 27, 28, 29, 30, 31, 32, 33, 34, 35, 36, 37, 38, 39, 40, 41, 42, 43, 44, 45, 46, 47, 48, 49, 50, 51, 52, 53, 54, 55, 56, 57, 58, 59, 60, 61, 62, 63, 64, 65, 66, 67, 68, 69, 70, 71, 72, 73, 74, 75, 76, 20, 77, 78, 79, 80, 81, 82, 83, 84, 85, 86, 87, 88, 89, 90, 91, 92, 93, 94, 95, 109, 102, 103, 104, 105, 106, 107, 108, 110, 111, 112, 113, 114, 115, 116, 117, 118, 119, 120] (by decide +kernel) (by decide +kernel)
set_option maxRecDepth 20000 in
theorem gX1_fillRow_X2_reason : GoodIn wsX1_fillRow (wsV RX1 74 RX2 yX2_reason wsX2_reason) := goodIn_app (goodIn_of _ (by decide +kernel)) ggX1_fillRow_X2_reason
theorem dX1_fillRow_0 : decode cX1_fillRow 0 = .ok (.iload_n 1, 1) := by decide +kernel
theorem dX1_fillRow_1 : decode cX1_fillRow 1 = .ok (.iload_n 2, 1) := by decide +kernel
theorem dX1_fillRow_2 : decode cX1_fillRow 2 = .ok (.if_icmp .ne 7, 3) := by decide +kernel
theorem dX1_fillRow_5 : decode cX1_fillRow 5 = .ok (.iconst 1, 1) := by decide +kernel
theorem dX1_fillRow_6 : decode cX1_fillRow 6 = .ok (.goto 4, 3) := by decide +kernel
theorem dX1_fillRow_9 : decode cX1_fillRow 9 = .ok (.iconst 0, 1) := by decide +kernel
theorem dX1_fillRow_10 : decode cX1_fillRow 10 = .ok (.istore_n 3, 1) := by decide +kernel
theorem dX1_fillRow_11 : decode cX1_fillRow 11 = .ok (.iconst 0, 1) := by decide +kernel
theorem dX1_fillRow_12 : decode cX1_fillRow 12 = .ok (.istore 4, 2) := by decide +kernel
theorem dX1_fillRow_14 : decode cX1_fillRow 14 = .ok (.iconst 0, 1) := by decide +kernel
theorem dX1_fillRow_15 : decode cX1_fillRow 15 = .ok (.istore 5, 2) := by decide +kernel
theorem dX1_fillRow_17 : decode cX1_fillRow 17 = .ok (.iload 5, 2) := by decide +kernel
theorem dX1_fillRow_19 : decode cX1_fillRow 19 = .ok (.aload_n 0, 1) := by decide +kernel
theorem dX1_fillRow_20 : decode cX1_fillRow 20 = .ok (.getfield 21, 3) := by decide +kernel
theorem dX1_fillRow_23 : decode cX1_fillRow 23 = .ok (.getfield 62, 3) := by decide +kernel
theorem dX1_fillRow_26 : decode cX1_fillRow 26 = .ok (.if_icmp .ge 78, 3) := by decide +kernel
theorem dX1_fillRow_29 : decode cX1_fillRow 29 = .ok (.aload_n 0, 1) := by decide +kernel
theorem dX1_fillRow_30 : decode cX1_fillRow 30 = .ok (.iload_n 1, 1) := by decide +kernel
theorem dX1_fillRow_31 : decode cX1_fillRow 31 = .ok (.iconst 1, 1) := by decide +kernel
theorem dX1_fillRow_32 : decode cX1_fillRow 32 = .ok (.iload 5, 2) := by decide +kernel
theorem dX1_fillRow_34 : decode cX1_fillRow 34 = .ok (.ishl, 1) := by decide +kernel
theorem dX1_fillRow_35 : decode cX1_fillRow 35 = .ok (.ior, 1) := by decide +kernel
theorem dX1_fillRow_36 : decode cX1_fillRow 36 = .ok (.invokevirtual 66, 3) := by decide +kernel
theorem dX1_fillRow_39 : decode cX1_fillRow 39 = .ok (.istore 6, 2) := by decide +kernel
theorem dX1_fillRow_41 : decode cX1_fillRow 41 = .ok (.aload_n 0, 1) := by decide +kernel
theorem dX1_fillRow_42 : decode cX1_fillRow 42 = .ok (.getfield 21, 3) := by decide +kernel
theorem dX1_fillRow_45 : decode cX1_fillRow 45 = .ok (.iload 5, 2) := by decide +kernel
theorem dX1_fillRow_47 : decode cX1_fillRow 47 = .ok (.invokevirtual 70, 3) := by decide +kernel
theorem dX1_fillRow_50 : decode cX1_fillRow 50 = .ok (.ifCond .ne 7, 3) := by decide +kernel
theorem dX1_fillRow_53 : decode cX1_fillRow 53 = .ok (.iconst 1, 1) := by decide +kernel
theorem dX1_fillRow_54 : decode cX1_fillRow 54 = .ok (.goto 4, 3) := by decide +kernel
theorem dX1_fillRow_57 : decode cX1_fillRow 57 = .ok (.iconst 0, 1) := by decide +kernel
theorem dX1_fillRow_58 : decode cX1_fillRow 58 = .ok (.istore 7, 2) := by decide +kernel
theorem dX1_fillRow_60 : decode cX1_fillRow 60 = .ok (.iload 6, 2) := by decide +kernel
theorem dX1_fillRow_62 : decode cX1_fillRow 62 = .ok (.ifCond .le 36, 3) := by decide +kernel
theorem dX1_fillRow_65 : decode cX1_fillRow 65 = .ok (.aload_n 0, 1) := by decide +kernel
theorem dX1_fillRow_66 : decode cX1_fillRow 66 = .ok (.getfield 12, 3) := by decide +kernel
theorem dX1_fillRow_69 : decode cX1_fillRow 69 = .ok (.aload_n 0, 1) := by decide +kernel
theorem dX1_fillRow_70 : decode cX1_fillRow 70 = .ok (.getfield 21, 3) := by decide +kernel
theorem dX1_fillRow_73 : decode cX1_fillRow 73 = .ok (.iload 5, 2) := by decide +kernel
theorem dX1_fillRow_75 : decode cX1_fillRow 75 = .ok (.iload_n 1, 1) := by decide +kernel
theorem dX1_fillRow_76 : decode cX1_fillRow 76 = .ok (.iload 7, 2) := by decide +kernel
theorem dX1_fillRow_78 : decode cX1_fillRow 78 = .ok (.invokevirtual 74, 3) := by decide +kernel
theorem dX1_fillRow_81 : decode cX1_fillRow 81 = .ok (.ifCond .ne 17, 3) := by decide +kernel
theorem dX1_fillRow_84 : decode cX1_fillRow 84 = .ok (.iload_n 3, 1) := by decide +kernel
theorem dX1_fillRow_85 : decode cX1_fillRow 85 = .ok (.iload 6, 2) := by decide +kernel
theorem dX1_fillRow_87 : decode cX1_fillRow 87 = .ok (.iadd, 1) := by decide +kernel
theorem dX1_fillRow_88 : decode cX1_fillRow 88 = .ok (.istore_n 3, 1) := by decide +kernel
theorem dX1_fillRow_89 : decode cX1_fillRow 89 = .ok (.iload 4, 2) := by decide +kernel
theorem dX1_fillRow_91 : decode cX1_fillRow 91 = .ok (.iconst 1, 1) := by decide +kernel
theorem dX1_fillRow_92 : decode cX1_fillRow 92 = .ok (.iload 5, 2) := by decide +kernel
theorem dX1_fillRow_94 : decode cX1_fillRow 94 = .ok (.ishl, 1) := by decide +kernel
theorem dX1_fillRow_95 : decode cX1_fillRow 95 = .ok (.ior, 1) := by decide +kernel
theorem dX1_fillRow_96 : decode cX1_fillRow 96 = .ok (.istore 4, 2) := by decide +kernel
theorem dX1_fillRow_98 : decode cX1_fillRow 98 = .ok (.iinc 5 1, 3) := by decide +kernel
theorem dX1_fillRow_101 : decode cX1_fillRow 101 = .ok (.goto (-84), 3) := by decide +kernel
theorem dX1_fillRow_104 : decode cX1_fillRow 104 = .ok (.iload_n 1, 1) := by decide +kernel
theorem dX1_fillRow_105 : decode cX1_fillRow 105 = .ok (.ifCond .lt 36, 3) := by decide +kernel
theorem dX1_fillRow_108 : decode cX1_fillRow 108 = .ok (.iload_n 1, 1) := by decide +kernel
theorem dX1_fillRow_109 : decode cX1_fillRow 109 = .ok (.aload_n 0, 1) := by decide +kernel
theorem dX1_fillRow_110 : decode cX1_fillRow 110 = .ok (.getfield 29, 3) := by decide +kernel
theorem dX1_fillRow_113 : decode cX1_fillRow 113 = .ok (.arraylength, 1) := by decide +kernel
theorem dX1_fillRow_114 : decode cX1_fillRow 114 = .ok (.if_icmp .ge 27, 3) := by decide +kernel
theorem dX1_fillRow_117 : decode cX1_fillRow 117 = .ok (.iload_n 1, 1) := by decide +kernel
theorem dX1_fillRow_118 : decode cX1_fillRow 118 = .ok (.aload_n 0, 1) := by decide +kernel
theorem dX1_fillRow_119 : decode cX1_fillRow 119 = .ok (.getfield 33, 3) := by decide +kernel
theorem dX1_fillRow_122 : decode cX1_fillRow 122 = .ok (.arraylength, 1) := by decide +kernel
theorem dX1_fillRow_123 : decode cX1_fillRow 123 = .ok (.if_icmp .ge 18, 3) := by decide +kernel
theorem dX1_fillRow_126 : decode cX1_fillRow 126 = .ok (.aload_n 0, 1) := by decide +kernel
theorem dX1_fillRow_127 : decode cX1_fillRow 127 = .ok (.getfield 29, 3) := by decide +kernel
theorem dX1_fillRow_130 : decode cX1_fillRow 130 = .ok (.iload_n 1, 1) := by decide +kernel
theorem dX1_fillRow_131 : decode cX1_fillRow 131 = .ok (.iload_n 3, 1) := by decide +kernel
theorem dX1_fillRow_132 : decode cX1_fillRow 132 = .ok (.iastore, 1) := by decide +kernel
theorem dX1_fillRow_133 : decode cX1_fillRow 133 = .ok (.aload_n 0, 1) := by decide +kernel
theorem dX1_fillRow_134 : decode cX1_fillRow 134 = .ok (.getfield 33, 3) := by decide +kernel
theorem dX1_fillRow_137 : decode cX1_fillRow 137 = .ok (.iload_n 1, 1) := by decide +kernel
theorem dX1_fillRow_138 : decode cX1_fillRow 138 = .ok (.iload 4, 2) := by decide +kernel
theorem dX1_fillRow_140 : decode cX1_fillRow 140 = .ok (.iastore, 1) := by decide +kernel
theorem dX1_fillRow_141 : decode cX1_fillRow 141 = .ok (.return_, 1) := by decide +kernel
theorem dX1_waysFrom_0 : decode cX1_waysFrom 0 = .ok (.iload_n 1, 1) := by decide +kernel
theorem dX1_waysFrom_1 : decode cX1_waysFrom 1 = .ok (.ifCond .lt 21, 3) := by decide +kernel
theorem dX1_waysFrom_4 : decode cX1_waysFrom 4 = .ok (.iload_n 1, 1) := by decide +kernel
theorem dX1_waysFrom_5 : decode cX1_waysFrom 5 = .ok (.aload_n 0, 1) := by decide +kernel
theorem dX1_waysFrom_6 : decode cX1_waysFrom 6 = .ok (.getfield 29, 3) := by decide +kernel
theorem dX1_waysFrom_9 : decode cX1_waysFrom 9 = .ok (.arraylength, 1) := by decide +kernel
theorem dX1_waysFrom_10 : decode cX1_waysFrom 10 = .ok (.if_icmp .ge 12, 3) := by decide +kernel
theorem dX1_waysFrom_13 : decode cX1_waysFrom 13 = .ok (.aload_n 0, 1) := by decide +kernel
theorem dX1_waysFrom_14 : decode cX1_waysFrom 14 = .ok (.getfield 29, 3) := by decide +kernel
theorem dX1_waysFrom_17 : decode cX1_waysFrom 17 = .ok (.iload_n 1, 1) := by decide +kernel
theorem dX1_waysFrom_18 : decode cX1_waysFrom 18 = .ok (.iaload, 1) := by decide +kernel
theorem dX1_waysFrom_19 : decode cX1_waysFrom 19 = .ok (.goto 4, 3) := by decide +kernel
theorem dX1_waysFrom_22 : decode cX1_waysFrom 22 = .ok (.iconst 0, 1) := by decide +kernel
theorem dX1_waysFrom_23 : decode cX1_waysFrom 23 = .ok (.ireturn, 1) := by decide +kernel
theorem dX1_stepsFrom_0 : decode cX1_stepsFrom 0 = .ok (.iload_n 1, 1) := by decide +kernel
theorem dX1_stepsFrom_1 : decode cX1_stepsFrom 1 = .ok (.ifCond .lt 21, 3) := by decide +kernel
theorem dX1_stepsFrom_4 : decode cX1_stepsFrom 4 = .ok (.iload_n 1, 1) := by decide +kernel
theorem dX1_stepsFrom_5 : decode cX1_stepsFrom 5 = .ok (.aload_n 0, 1) := by decide +kernel
theorem dX1_stepsFrom_6 : decode cX1_stepsFrom 6 = .ok (.getfield 33, 3) := by decide +kernel
theorem dX1_stepsFrom_9 : decode cX1_stepsFrom 9 = .ok (.arraylength, 1) := by decide +kernel
theorem dX1_stepsFrom_10 : decode cX1_stepsFrom 10 = .ok (.if_icmp .ge 12, 3) := by decide +kernel
theorem dX1_stepsFrom_13 : decode cX1_stepsFrom 13 = .ok (.aload_n 0, 1) := by decide +kernel
theorem dX1_stepsFrom_14 : decode cX1_stepsFrom 14 = .ok (.getfield 33, 3) := by decide +kernel
theorem dX1_stepsFrom_17 : decode cX1_stepsFrom 17 = .ok (.iload_n 1, 1) := by decide +kernel
theorem dX1_stepsFrom_18 : decode cX1_stepsFrom 18 = .ok (.iaload, 1) := by decide +kernel
theorem dX1_stepsFrom_19 : decode cX1_stepsFrom 19 = .ok (.goto 4, 3) := by decide +kernel
theorem dX1_stepsFrom_22 : decode cX1_stepsFrom 22 = .ok (.iconst 0, 1) := by decide +kernel
theorem dX1_stepsFrom_23 : decode cX1_stepsFrom 23 = .ok (.ireturn, 1) := by decide +kernel
set_option maxRecDepth 20000 in
theorem ggX1_firstStep_X1_stepsFrom : GoodIn wsX1_firstStep wsX1_stepsFrom := goodIn_r _ [7, 8, 9, 10, 11, 12, 13, 14] (by decide +kernel) (by decide +kernel)
set_option maxRecDepth 20000 in
theorem gX1_firstStep_X1_stepsFrom : GoodIn wsX1_firstStep (wsV RX1 78 RX1 yX1_stepsFrom wsX1_stepsFrom) := goodIn_app (goodIn_of _ (by decide +kernel)) ggX1_firstStep_X1_stepsFrom
theorem dX1_firstStep_0 : decode cX1_firstStep 0 = .ok (.aload_n 0, 1) := by decide +kernel
theorem dX1_firstStep_1 : decode cX1_firstStep 1 = .ok (.iload_n 1, 1) := by decide +kernel
theorem dX1_firstStep_2 : decode cX1_firstStep 2 = .ok (.invokevirtual 78, 3) := by decide +kernel
theorem dX1_firstStep_5 : decode cX1_firstStep 5 = .ok (.istore_n 2, 1) := by decide +kernel
theorem dX1_firstStep_6 : decode cX1_firstStep 6 = .ok (.iconst 0, 1) := by decide +kernel
theorem dX1_firstStep_7 : decode cX1_firstStep 7 = .ok (.istore_n 3, 1) := by decide +kernel
theorem dX1_firstStep_8 : decode cX1_firstStep 8 = .ok (.iload_n 3, 1) := by decide +kernel
theorem dX1_firstStep_9 : decode cX1_firstStep 9 = .ok (.aload_n 0, 1) := by decide +kernel
theorem dX1_firstStep_10 : decode cX1_firstStep 10 = .ok (.getfield 21, 3) := by decide +kernel
theorem dX1_firstStep_13 : decode cX1_firstStep 13 = .ok (.getfield 62, 3) := by decide +kernel
theorem dX1_firstStep_16 : decode cX1_firstStep 16 = .ok (.if_icmp .ge 20, 3) := by decide +kernel
theorem dX1_firstStep_19 : decode cX1_firstStep 19 = .ok (.iload_n 2, 1) := by decide +kernel
theorem dX1_firstStep_20 : decode cX1_firstStep 20 = .ok (.iload_n 3, 1) := by decide +kernel
theorem dX1_firstStep_21 : decode cX1_firstStep 21 = .ok (.ishr, 1) := by decide +kernel
theorem dX1_firstStep_22 : decode cX1_firstStep 22 = .ok (.iconst 1, 1) := by decide +kernel
theorem dX1_firstStep_23 : decode cX1_firstStep 23 = .ok (.iand, 1) := by decide +kernel
theorem dX1_firstStep_24 : decode cX1_firstStep 24 = .ok (.iconst 1, 1) := by decide +kernel
theorem dX1_firstStep_25 : decode cX1_firstStep 25 = .ok (.if_icmp .ne 5, 3) := by decide +kernel
theorem dX1_firstStep_28 : decode cX1_firstStep 28 = .ok (.iload_n 3, 1) := by decide +kernel
theorem dX1_firstStep_29 : decode cX1_firstStep 29 = .ok (.ireturn, 1) := by decide +kernel
theorem dX1_firstStep_30 : decode cX1_firstStep 30 = .ok (.iinc 3 1, 3) := by decide +kernel
theorem dX1_firstStep_33 : decode cX1_firstStep 33 = .ok (.goto (-25), 3) := by decide +kernel
theorem dX1_firstStep_36 : decode cX1_firstStep 36 = .ok (.iconst 0, 1) := by decide +kernel
theorem dX1_firstStep_37 : decode cX1_firstStep 37 = .ok (.ireturn, 1) := by decide +kernel
set_option maxRecDepth 20000 in
theorem ggX1_turnings_X4_allBends : GoodIn wsX1_turnings wsX4_allBends := goodIn_r _ [7, 8, 30, 31, 32, 33, 34, 35, 36] (by decide +kernel) (by decide +kernel)
set_option maxRecDepth 20000 in
theorem gX1_turnings_X4_allBends : GoodIn wsX1_turnings (wsV RX1 48 RX4 yX4_allBends wsX4_allBends) := goodIn_app (goodIn_of _ (by decide +kernel)) ggX1_turnings_X4_allBends
set_option maxRecDepth 20000 in
theorem ggX1_turnings_X1_firstStep : GoodIn wsX1_turnings wsX1_firstStep := goodIn_r _ [13, 1, 2, 14, 15, 16, 12, 17, 18, 24, 25, 26, 27, 28, 29, 30, 31, 32, 33, 34, 35, 36] (by decide +kernel) (by decide +kernel)
set_option maxRecDepth 20000 in
theorem gX1_turnings_X1_firstStep : GoodIn wsX1_turnings (wsV RX1 81 RX1 yX1_firstStep wsX1_firstStep) := goodIn_app (goodIn_of _ (by decide +kernel)) ggX1_turnings_X1_firstStep
set_option maxRecDepth 20000 in
theorem ggX1_turnings_X4_isUp : GoodIn wsX1_turnings wsX4_isUp := goodIn_r _ [22, 23, 30, 31, 32, 33, 34, 35, 36] (by decide +kernel) (by decide +kernel)
set_option maxRecDepth 20000 in
theorem gX1_turnings_X4_isUp : GoodIn wsX1_turnings (wsV RX1 70 RX4 yX4_isUp wsX4_isUp) := goodIn_app (goodIn_of _ (by decide +kernel)) ggX1_turnings_X4_isUp
theorem dX1_turnings_0 : decode cX1_turnings 0 = .ok (.aload_n 0, 1) := by decide +kernel
theorem dX1_turnings_1 : decode cX1_turnings 1 = .ok (.getfield 21, 3) := by decide +kernel
theorem dX1_turnings_4 : decode cX1_turnings 4 = .ok (.invokevirtual 48, 3) := by decide +kernel
theorem dX1_turnings_7 : decode cX1_turnings 7 = .ok (.istore_n 3, 1) := by decide +kernel
theorem dX1_turnings_8 : decode cX1_turnings 8 = .ok (.iconst 0, 1) := by decide +kernel
theorem dX1_turnings_9 : decode cX1_turnings 9 = .ok (.istore 4, 2) := by decide +kernel
theorem dX1_turnings_11 : decode cX1_turnings 11 = .ok (.iconst 0, 1) := by decide +kernel
theorem dX1_turnings_12 : decode cX1_turnings 12 = .ok (.istore 5, 2) := by decide +kernel
theorem dX1_turnings_14 : decode cX1_turnings 14 = .ok (.iload 5, 2) := by decide +kernel
theorem dX1_turnings_16 : decode cX1_turnings 16 = .ok (.aload_n 0, 1) := by decide +kernel
theorem dX1_turnings_17 : decode cX1_turnings 17 = .ok (.getfield 21, 3) := by decide +kernel
theorem dX1_turnings_20 : decode cX1_turnings 20 = .ok (.getfield 62, 3) := by decide +kernel
theorem dX1_turnings_23 : decode cX1_turnings 23 = .ok (.if_icmp .ge 59, 3) := by decide +kernel
theorem dX1_turnings_26 : decode cX1_turnings 26 = .ok (.iload_n 1, 1) := by decide +kernel
theorem dX1_turnings_27 : decode cX1_turnings 27 = .ok (.iload_n 3, 1) := by decide +kernel
theorem dX1_turnings_28 : decode cX1_turnings 28 = .ok (.if_icmp .eq 54, 3) := by decide +kernel
theorem dX1_turnings_31 : decode cX1_turnings 31 = .ok (.aload_n 0, 1) := by decide +kernel
theorem dX1_turnings_32 : decode cX1_turnings 32 = .ok (.iload_n 1, 1) := by decide +kernel
theorem dX1_turnings_33 : decode cX1_turnings 33 = .ok (.invokevirtual 81, 3) := by decide +kernel
theorem dX1_turnings_36 : decode cX1_turnings 36 = .ok (.istore 6, 2) := by decide +kernel
theorem dX1_turnings_38 : decode cX1_turnings 38 = .ok (.aload_n 0, 1) := by decide +kernel
theorem dX1_turnings_39 : decode cX1_turnings 39 = .ok (.getfield 21, 3) := by decide +kernel
theorem dX1_turnings_42 : decode cX1_turnings 42 = .ok (.iload 6, 2) := by decide +kernel
theorem dX1_turnings_44 : decode cX1_turnings 44 = .ok (.invokevirtual 70, 3) := by decide +kernel
theorem dX1_turnings_47 : decode cX1_turnings 47 = .ok (.ifCond .ne 7, 3) := by decide +kernel
theorem dX1_turnings_50 : decode cX1_turnings 50 = .ok (.iconst 1, 1) := by decide +kernel
theorem dX1_turnings_51 : decode cX1_turnings 51 = .ok (.goto 4, 3) := by decide +kernel
theorem dX1_turnings_54 : decode cX1_turnings 54 = .ok (.iconst 0, 1) := by decide +kernel
theorem dX1_turnings_55 : decode cX1_turnings 55 = .ok (.istore 7, 2) := by decide +kernel
theorem dX1_turnings_57 : decode cX1_turnings 57 = .ok (.iload 7, 2) := by decide +kernel
theorem dX1_turnings_59 : decode cX1_turnings 59 = .ok (.iload_n 2, 1) := by decide +kernel
theorem dX1_turnings_60 : decode cX1_turnings 60 = .ok (.if_icmp .eq 6, 3) := by decide +kernel
theorem dX1_turnings_63 : decode cX1_turnings 63 = .ok (.iinc 4 1, 3) := by decide +kernel
theorem dX1_turnings_66 : decode cX1_turnings 66 = .ok (.iload 7, 2) := by decide +kernel
theorem dX1_turnings_68 : decode cX1_turnings 68 = .ok (.istore_n 2, 1) := by decide +kernel
theorem dX1_turnings_69 : decode cX1_turnings 69 = .ok (.iload_n 1, 1) := by decide +kernel
theorem dX1_turnings_70 : decode cX1_turnings 70 = .ok (.iconst 1, 1) := by decide +kernel
theorem dX1_turnings_71 : decode cX1_turnings 71 = .ok (.iload 6, 2) := by decide +kernel
theorem dX1_turnings_73 : decode cX1_turnings 73 = .ok (.ishl, 1) := by decide +kernel
theorem dX1_turnings_74 : decode cX1_turnings 74 = .ok (.ior, 1) := by decide +kernel
theorem dX1_turnings_75 : decode cX1_turnings 75 = .ok (.istore_n 1, 1) := by decide +kernel
theorem dX1_turnings_76 : decode cX1_turnings 76 = .ok (.iinc 5 1, 3) := by decide +kernel
theorem dX1_turnings_79 : decode cX1_turnings 79 = .ok (.goto (-65), 3) := by decide +kernel
theorem dX1_turnings_82 : decode cX1_turnings 82 = .ok (.iload 4, 2) := by decide +kernel
theorem dX1_turnings_84 : decode cX1_turnings 84 = .ok (.ireturn, 1) := by decide +kernel
set_option maxRecDepth 20000 in
theorem ggX1_canPrecede_X1_stepsFrom : GoodIn wsX1_canPrecede wsX1_stepsFrom := goodIn_r _ [10, 11, 18, 19, 20, 21, 22, 23] (by decide +kernel) (by decide +kernel)
set_option maxRecDepth 20000 in
theorem gX1_canPrecede_X1_stepsFrom : GoodIn wsX1_canPrecede (wsV RX1 78 RX1 yX1_stepsFrom wsX1_stepsFrom) := goodIn_app (goodIn_of _ (by decide +kernel)) ggX1_canPrecede_X1_stepsFrom
set_option maxRecDepth 20000 in
theorem ggX1_canPrecede_X1_reachFrom : GoodIn wsX1_canPrecede wsX1_reachFrom := goodIn_r _ [15, 16, 17, 1, 18, 19, 20, 21, 22, 23, 24, 25, 26, 27, 28, 29, 30] (by decide +kernel) (by decide +kernel)
set_option maxRecDepth 20000 in
theorem gX1_canPrecede_X1_reachFrom : GoodIn wsX1_canPrecede (wsV RX1 87 RX1 yX1_reachFrom wsX1_reachFrom) := goodIn_app (goodIn_of _ (by decide +kernel)) ggX1_canPrecede_X1_reachFrom
theorem dX1_canPrecede_0 : decode cX1_canPrecede 0 = .ok (.iconst 0, 1) := by decide +kernel
theorem dX1_canPrecede_1 : decode cX1_canPrecede 1 = .ok (.istore 4, 2) := by decide +kernel
theorem dX1_canPrecede_3 : decode cX1_canPrecede 3 = .ok (.iload 4, 2) := by decide +kernel
theorem dX1_canPrecede_5 : decode cX1_canPrecede 5 = .ok (.aload_n 0, 1) := by decide +kernel
theorem dX1_canPrecede_6 : decode cX1_canPrecede 6 = .ok (.getfield 36, 3) := by decide +kernel
theorem dX1_canPrecede_9 : decode cX1_canPrecede 9 = .ok (.arraylength, 1) := by decide +kernel
theorem dX1_canPrecede_10 : decode cX1_canPrecede 10 = .ok (.if_icmp .ge 27, 3) := by decide +kernel
theorem dX1_canPrecede_13 : decode cX1_canPrecede 13 = .ok (.aload_n 0, 1) := by decide +kernel
theorem dX1_canPrecede_14 : decode cX1_canPrecede 14 = .ok (.getfield 36, 3) := by decide +kernel
theorem dX1_canPrecede_17 : decode cX1_canPrecede 17 = .ok (.iload 4, 2) := by decide +kernel
theorem dX1_canPrecede_19 : decode cX1_canPrecede 19 = .ok (.iload 4, 2) := by decide +kernel
theorem dX1_canPrecede_21 : decode cX1_canPrecede 21 = .ok (.iload_n 1, 1) := by decide +kernel
theorem dX1_canPrecede_22 : decode cX1_canPrecede 22 = .ok (.if_icmp .ne 7, 3) := by decide +kernel
theorem dX1_canPrecede_25 : decode cX1_canPrecede 25 = .ok (.iconst 1, 1) := by decide +kernel
theorem dX1_canPrecede_26 : decode cX1_canPrecede 26 = .ok (.goto 4, 3) := by decide +kernel
theorem dX1_canPrecede_29 : decode cX1_canPrecede 29 = .ok (.iconst 0, 1) := by decide +kernel
theorem dX1_canPrecede_30 : decode cX1_canPrecede 30 = .ok (.bastore, 1) := by decide +kernel
theorem dX1_canPrecede_31 : decode cX1_canPrecede 31 = .ok (.iinc 4 1, 3) := by decide +kernel
theorem dX1_canPrecede_34 : decode cX1_canPrecede 34 = .ok (.goto (-31), 3) := by decide +kernel
theorem dX1_canPrecede_37 : decode cX1_canPrecede 37 = .ok (.iconst 0, 1) := by decide +kernel
theorem dX1_canPrecede_38 : decode cX1_canPrecede 38 = .ok (.iload_n 1, 1) := by decide +kernel
theorem dX1_canPrecede_39 : decode cX1_canPrecede 39 = .ok (.invokestatic 84, 3) := by decide +kernel
theorem dX1_canPrecede_42 : decode cX1_canPrecede 42 = .ok (.istore 4, 2) := by decide +kernel
theorem dX1_canPrecede_44 : decode cX1_canPrecede 44 = .ok (.iload 4, 2) := by decide +kernel
theorem dX1_canPrecede_46 : decode cX1_canPrecede 46 = .ok (.aload_n 0, 1) := by decide +kernel
theorem dX1_canPrecede_47 : decode cX1_canPrecede 47 = .ok (.getfield 36, 3) := by decide +kernel
theorem dX1_canPrecede_50 : decode cX1_canPrecede 50 = .ok (.arraylength, 1) := by decide +kernel
theorem dX1_canPrecede_51 : decode cX1_canPrecede 51 = .ok (.if_icmp .ge 57, 3) := by decide +kernel
theorem dX1_canPrecede_54 : decode cX1_canPrecede 54 = .ok (.aload_n 0, 1) := by decide +kernel
theorem dX1_canPrecede_55 : decode cX1_canPrecede 55 = .ok (.getfield 36, 3) := by decide +kernel
theorem dX1_canPrecede_58 : decode cX1_canPrecede 58 = .ok (.iload 4, 2) := by decide +kernel
theorem dX1_canPrecede_60 : decode cX1_canPrecede 60 = .ok (.baload, 1) := by decide +kernel
theorem dX1_canPrecede_61 : decode cX1_canPrecede 61 = .ok (.ifCond .eq 12, 3) := by decide +kernel
theorem dX1_canPrecede_64 : decode cX1_canPrecede 64 = .ok (.aload_n 0, 1) := by decide +kernel
theorem dX1_canPrecede_65 : decode cX1_canPrecede 65 = .ok (.iload 4, 2) := by decide +kernel
theorem dX1_canPrecede_67 : decode cX1_canPrecede 67 = .ok (.invokevirtual 78, 3) := by decide +kernel
theorem dX1_canPrecede_70 : decode cX1_canPrecede 70 = .ok (.goto 4, 3) := by decide +kernel
theorem dX1_canPrecede_73 : decode cX1_canPrecede 73 = .ok (.iconst 0, 1) := by decide +kernel
theorem dX1_canPrecede_74 : decode cX1_canPrecede 74 = .ok (.istore 5, 2) := by decide +kernel
theorem dX1_canPrecede_76 : decode cX1_canPrecede 76 = .ok (.iload 5, 2) := by decide +kernel
theorem dX1_canPrecede_78 : decode cX1_canPrecede 78 = .ok (.iload_n 2, 1) := by decide +kernel
theorem dX1_canPrecede_79 : decode cX1_canPrecede 79 = .ok (.ishr, 1) := by decide +kernel
theorem dX1_canPrecede_80 : decode cX1_canPrecede 80 = .ok (.iconst 1, 1) := by decide +kernel
theorem dX1_canPrecede_81 : decode cX1_canPrecede 81 = .ok (.iand, 1) := by decide +kernel
theorem dX1_canPrecede_82 : decode cX1_canPrecede 82 = .ok (.iconst 1, 1) := by decide +kernel
theorem dX1_canPrecede_83 : decode cX1_canPrecede 83 = .ok (.if_icmp .ne 5, 3) := by decide +kernel
theorem dX1_canPrecede_86 : decode cX1_canPrecede 86 = .ok (.iconst 1, 1) := by decide +kernel
theorem dX1_canPrecede_87 : decode cX1_canPrecede 87 = .ok (.ireturn, 1) := by decide +kernel
theorem dX1_canPrecede_88 : decode cX1_canPrecede 88 = .ok (.aload_n 0, 1) := by decide +kernel
theorem dX1_canPrecede_89 : decode cX1_canPrecede 89 = .ok (.iload 4, 2) := by decide +kernel
theorem dX1_canPrecede_91 : decode cX1_canPrecede 91 = .ok (.iload 5, 2) := by decide +kernel
theorem dX1_canPrecede_93 : decode cX1_canPrecede 93 = .ok (.iconst 1, 1) := by decide +kernel
theorem dX1_canPrecede_94 : decode cX1_canPrecede 94 = .ok (.iload_n 3, 1) := by decide +kernel
theorem dX1_canPrecede_95 : decode cX1_canPrecede 95 = .ok (.ishl, 1) := by decide +kernel
theorem dX1_canPrecede_96 : decode cX1_canPrecede 96 = .ok (.iconst (-1), 1) := by decide +kernel
theorem dX1_canPrecede_97 : decode cX1_canPrecede 97 = .ok (.ixor, 1) := by decide +kernel
theorem dX1_canPrecede_98 : decode cX1_canPrecede 98 = .ok (.iand, 1) := by decide +kernel
theorem dX1_canPrecede_99 : decode cX1_canPrecede 99 = .ok (.invokevirtual 87, 3) := by decide +kernel
theorem dX1_canPrecede_102 : decode cX1_canPrecede 102 = .ok (.iinc 4 1, 3) := by decide +kernel
theorem dX1_canPrecede_105 : decode cX1_canPrecede 105 = .ok (.goto (-61), 3) := by decide +kernel
theorem dX1_canPrecede_108 : decode cX1_canPrecede 108 = .ok (.iconst 0, 1) := by decide +kernel
theorem dX1_canPrecede_109 : decode cX1_canPrecede 109 = .ok (.ireturn, 1) := by decide +kernel
theorem dX1_reachFrom_0 : decode cX1_reachFrom 0 = .ok (.iconst 0, 1) := by decide +kernel
theorem dX1_reachFrom_1 : decode cX1_reachFrom 1 = .ok (.istore_n 3, 1) := by decide +kernel
theorem dX1_reachFrom_2 : decode cX1_reachFrom 2 = .ok (.iload_n 3, 1) := by decide +kernel
theorem dX1_reachFrom_3 : decode cX1_reachFrom 3 = .ok (.aload_n 0, 1) := by decide +kernel
theorem dX1_reachFrom_4 : decode cX1_reachFrom 4 = .ok (.getfield 21, 3) := by decide +kernel
theorem dX1_reachFrom_7 : decode cX1_reachFrom 7 = .ok (.getfield 62, 3) := by decide +kernel
theorem dX1_reachFrom_10 : decode cX1_reachFrom 10 = .ok (.if_icmp .ge 48, 3) := by decide +kernel
theorem dX1_reachFrom_13 : decode cX1_reachFrom 13 = .ok (.iload_n 1, 1) := by decide +kernel
theorem dX1_reachFrom_14 : decode cX1_reachFrom 14 = .ok (.iconst 1, 1) := by decide +kernel
theorem dX1_reachFrom_15 : decode cX1_reachFrom 15 = .ok (.iload_n 3, 1) := by decide +kernel
theorem dX1_reachFrom_16 : decode cX1_reachFrom 16 = .ok (.ishl, 1) := by decide +kernel
theorem dX1_reachFrom_17 : decode cX1_reachFrom 17 = .ok (.ior, 1) := by decide +kernel
theorem dX1_reachFrom_18 : decode cX1_reachFrom 18 = .ok (.istore 4, 2) := by decide +kernel
theorem dX1_reachFrom_20 : decode cX1_reachFrom 20 = .ok (.iload_n 2, 1) := by decide +kernel
theorem dX1_reachFrom_21 : decode cX1_reachFrom 21 = .ok (.iload_n 3, 1) := by decide +kernel
theorem dX1_reachFrom_22 : decode cX1_reachFrom 22 = .ok (.ishr, 1) := by decide +kernel
theorem dX1_reachFrom_23 : decode cX1_reachFrom 23 = .ok (.iconst 1, 1) := by decide +kernel
theorem dX1_reachFrom_24 : decode cX1_reachFrom 24 = .ok (.iand, 1) := by decide +kernel
theorem dX1_reachFrom_25 : decode cX1_reachFrom 25 = .ok (.iconst 1, 1) := by decide +kernel
theorem dX1_reachFrom_26 : decode cX1_reachFrom 26 = .ok (.if_icmp .ne 26, 3) := by decide +kernel
theorem dX1_reachFrom_29 : decode cX1_reachFrom 29 = .ok (.iload 4, 2) := by decide +kernel
theorem dX1_reachFrom_31 : decode cX1_reachFrom 31 = .ok (.ifCond .lt 21, 3) := by decide +kernel
theorem dX1_reachFrom_34 : decode cX1_reachFrom 34 = .ok (.iload 4, 2) := by decide +kernel
theorem dX1_reachFrom_36 : decode cX1_reachFrom 36 = .ok (.aload_n 0, 1) := by decide +kernel
theorem dX1_reachFrom_37 : decode cX1_reachFrom 37 = .ok (.getfield 36, 3) := by decide +kernel
theorem dX1_reachFrom_40 : decode cX1_reachFrom 40 = .ok (.arraylength, 1) := by decide +kernel
theorem dX1_reachFrom_41 : decode cX1_reachFrom 41 = .ok (.if_icmp .ge 11, 3) := by decide +kernel
theorem dX1_reachFrom_44 : decode cX1_reachFrom 44 = .ok (.aload_n 0, 1) := by decide +kernel
theorem dX1_reachFrom_45 : decode cX1_reachFrom 45 = .ok (.getfield 36, 3) := by decide +kernel
theorem dX1_reachFrom_48 : decode cX1_reachFrom 48 = .ok (.iload 4, 2) := by decide +kernel
theorem dX1_reachFrom_50 : decode cX1_reachFrom 50 = .ok (.iconst 1, 1) := by decide +kernel
theorem dX1_reachFrom_51 : decode cX1_reachFrom 51 = .ok (.bastore, 1) := by decide +kernel
theorem dX1_reachFrom_52 : decode cX1_reachFrom 52 = .ok (.iinc 3 1, 3) := by decide +kernel
theorem dX1_reachFrom_55 : decode cX1_reachFrom 55 = .ok (.goto (-53), 3) := by decide +kernel
theorem dX1_reachFrom_58 : decode cX1_reachFrom 58 = .ok (.return_, 1) := by decide +kernel
set_option maxRecDepth 20000 in
theorem ggX2_init_X3_init : GoodIn wsX2_init wsX3_init := goodIn_r _ [10, 11, 2, 3, 12, 13, 14, 15, 16, 17, 18, 19, 20, 21, 22, 23, 24, 25, 26, 27, 28, 29] (by decide +kernel) (by decide +kernel)
set_option maxRecDepth 20000 in
theorem gX2_init_X3_init : GoodIn wsX2_init (wsX3_init) := ggX2_init_X3_init
theorem dX2_init_0 : decode cX2_init 0 = .ok (.aload_n 0, 1) := by decide +kernel
theorem dX2_init_1 : decode cX2_init 1 = .ok (.invokespecial 3, 3) := by decide +kernel
theorem dX2_init_4 : decode cX2_init 4 = .ok (.aload_n 0, 1) := by decide +kernel
theorem dX2_init_5 : decode cX2_init 5 = .ok (.new 9, 3) := by decide +kernel
theorem dX2_init_8 : decode cX2_init 8 = .ok (.dup, 1) := by decide +kernel
theorem dX2_init_9 : decode cX2_init 9 = .ok (.invokespecial 11, 3) := by decide +kernel
theorem dX2_init_12 : decode cX2_init 12 = .ok (.putfield 12, 3) := by decide +kernel
theorem dX2_init_15 : decode cX2_init 15 = .ok (.return_, 1) := by decide +kernel
set_option maxRecDepth 20000 in
theorem ggX2_reason_X4_isUp : GoodIn wsX2_reason wsX4_isUp := goodIn_r _ [6, 7, 82, 83, 84, 85, 86, 87, 88] (by decide +kernel) (by decide +kernel)
set_option maxRecDepth 20000 in
theorem gX2_reason_X4_isUp : GoodIn wsX2_reason (wsV RX2 18 RX4 yX4_isUp wsX4_isUp) := goodIn_app (goodIn_of _ (by decide +kernel)) ggX2_reason_X4_isUp
set_option maxRecDepth 20000 in
theorem ggX2_reason_X4_clampedLength : GoodIn wsX2_reason wsX4_clampedLength := goodIn_r _ [11, 12, 13, 14, 15, 5, 16, 17, 82, 83, 84, 85, 86, 87, 88] (by decide +kernel) (by decide +kernel)
set_option maxRecDepth 20000 in
theorem gX2_reason_X4_clampedLength : GoodIn wsX2_reason (wsV RX2 24 RX4 yX4_clampedLength wsX4_clampedLength) := goodIn_app (goodIn_of _ (by decide +kernel)) ggX2_reason_X4_clampedLength
set_option maxRecDepth 20000 in
theorem ggX2_reason_X4_settingAt : GoodIn wsX2_reason wsX4_settingAt := goodIn_r _ [21, 22, 82, 83, 84, 85, 86, 87, 88] (by decide +kernel) (by decide +kernel)
set_option maxRecDepth 20000 in
theorem gX2_reason_X4_settingAt : GoodIn wsX2_reason (wsV RX2 28 RX4 yX4_settingAt wsX4_settingAt) := goodIn_app (goodIn_of _ (by decide +kernel)) ggX2_reason_X4_settingAt
set_option maxRecDepth 20000 in
theorem ggX2_reason_X3_layFlat : GoodIn wsX2_reason wsX3_layFlat := goodIn_r _ [27, 28, 29, 30, 31, 32, 33, 34, 35, 36, 26, 37, 38, 39, 40, 41, 42, 3, 4, 5, 6, 7, 43, 44, 45, 46, 47, 14, 15, 16, 17, 48, 49, 50, 51, 52, 53, 54, 55, 56, 57, 82, 83, 84, 85, 86, 87, 88, 89, 90, 91, 92, 93, 94, 95, 96, 97, 98, 99] (by decide +kernel) (by decide +kernel)
set_option maxRecDepth 20000 in
theorem gX2_reason_X3_layFlat : GoodIn wsX2_reason (wsV RX2 32 RX3 yX3_layFlat wsX3_layFlat) := goodIn_app (goodIn_of _ (by decide +kernel)) ggX2_reason_X3_layFlat
set_option maxRecDepth 20000 in
theorem ggX2_reason_X2_inUpper : GoodIn wsX2_reason wsX2_inUpper := goodIn_r _ [62, 1, 63, 30, 31, 32, 18, 19, 20, 5, 21, 22, 64, 65, 66, 26, 67, 33, 53, 52, 54, 55, 81, 82, 83, 84, 85, 86, 87, 88, 89, 90, 91, 92, 93, 94, 95, 96, 97, 98, 99] (by decide +kernel) (by decide +kernel)
set_option maxRecDepth 20000 in
theorem gX2_reason_X2_inUpper : GoodIn wsX2_reason (wsV RX2 36 RX2 yX2_inUpper wsX2_inUpper) := goodIn_app (goodIn_of _ (by decide +kernel)) ggX2_reason_X2_inUpper
set_option maxRecDepth 20000 in
theorem ggX2_reason_X2_inLower : GoodIn wsX2_reason wsX2_inLower := goodIn_r _ [71, 1, 64, 65, 66, 26, 67, 33, 53, 52, 54, 55, 81, 89, 90, 91, 92, 93, 94, 95, 96, 97, 98, 99] (by decide +kernel) (by decide +kernel)
set_option maxRecDepth 20000 in
theorem gX2_reason_X2_inLower : GoodIn wsX2_reason (wsV RX2 40 RX2 yX2_inLower wsX2_inLower) := goodIn_app (goodIn_of _ (by decide +kernel)) ggX2_reason_X2_inLower
set_option maxRecDepth 20000 in
theorem ggX2_reason_X3_swingUp : GoodIn wsX2_reason wsX3_swingUp := goodIn_r _ [75, 52, 53, 54, 55, 89, 90, 91, 92, 93, 94, 95, 96, 97, 98, 99] (by decide +kernel) (by decide +kernel)
set_option maxRecDepth 20000 in
theorem gX2_reason_X3_swingUp : GoodIn wsX2_reason (wsV RX2 44 RX3 yX3_swingUp wsX3_swingUp) := goodIn_app (goodIn_of _ (by decide +kernel)) ggX2_reason_X3_swingUp
set_option maxRecDepth 20000 in
theorem ggX2_reason_X3_strikesItself : GoodIn wsX2_reason wsX3_strikesItself := goodIn_r _ [79, 33, 52, 53, 54, 55, 80, 65, 66, 26, 67, 89, 90, 91, 92, 93, 94, 95, 96, 97, 98, 99] (by decide +kernel) (by decide +kernel)
set_option maxRecDepth 20000 in
theorem gX2_reason_X3_strikesItself : GoodIn wsX2_reason (wsV RX2 48 RX3 yX3_strikesItself wsX3_strikesItself) := goodIn_app (goodIn_of _ (by decide +kernel)) ggX2_reason_X3_strikesItself
theorem dX2_reason_0 : decode cX2_reason 0 = .ok (.iload_n 3, 1) := by decide +kernel
theorem dX2_reason_1 : decode cX2_reason 1 = .ok (.iload_n 2, 1) := by decide +kernel
theorem dX2_reason_2 : decode cX2_reason 2 = .ok (.ishr, 1) := by decide +kernel
theorem dX2_reason_3 : decode cX2_reason 3 = .ok (.iconst 1, 1) := by decide +kernel
theorem dX2_reason_4 : decode cX2_reason 4 = .ok (.iand, 1) := by decide +kernel
theorem dX2_reason_5 : decode cX2_reason 5 = .ok (.iconst 1, 1) := by decide +kernel
theorem dX2_reason_6 : decode cX2_reason 6 = .ok (.if_icmp .ne 5, 3) := by decide +kernel
theorem dX2_reason_9 : decode cX2_reason 9 = .ok (.iconst 1, 1) := by decide +kernel
theorem dX2_reason_10 : decode cX2_reason 10 = .ok (.ireturn, 1) := by decide +kernel
theorem dX2_reason_11 : decode cX2_reason 11 = .ok (.aload_n 1, 1) := by decide +kernel
theorem dX2_reason_12 : decode cX2_reason 12 = .ok (.iload_n 2, 1) := by decide +kernel
theorem dX2_reason_13 : decode cX2_reason 13 = .ok (.invokevirtual 18, 3) := by decide +kernel
theorem dX2_reason_16 : decode cX2_reason 16 = .ok (.iload 4, 2) := by decide +kernel
theorem dX2_reason_18 : decode cX2_reason 18 = .ok (.if_icmp .ne 5, 3) := by decide +kernel
theorem dX2_reason_21 : decode cX2_reason 21 = .ok (.iconst 2, 1) := by decide +kernel
theorem dX2_reason_22 : decode cX2_reason 22 = .ok (.ireturn, 1) := by decide +kernel
theorem dX2_reason_23 : decode cX2_reason 23 = .ok (.aload_n 1, 1) := by decide +kernel
theorem dX2_reason_24 : decode cX2_reason 24 = .ok (.iload_n 2, 1) := by decide +kernel
theorem dX2_reason_25 : decode cX2_reason 25 = .ok (.iload_n 3, 1) := by decide +kernel
theorem dX2_reason_26 : decode cX2_reason 26 = .ok (.invokevirtual 24, 3) := by decide +kernel
theorem dX2_reason_29 : decode cX2_reason 29 = .ok (.aload_n 1, 1) := by decide +kernel
theorem dX2_reason_30 : decode cX2_reason 30 = .ok (.iconst 2, 1) := by decide +kernel
theorem dX2_reason_31 : decode cX2_reason 31 = .ok (.invokevirtual 28, 3) := by decide +kernel
theorem dX2_reason_34 : decode cX2_reason 34 = .ok (.if_icmp .ge 5, 3) := by decide +kernel
theorem dX2_reason_37 : decode cX2_reason 37 = .ok (.iconst 3, 1) := by decide +kernel
theorem dX2_reason_38 : decode cX2_reason 38 = .ok (.ireturn, 1) := by decide +kernel
theorem dX2_reason_39 : decode cX2_reason 39 = .ok (.aload_n 0, 1) := by decide +kernel
theorem dX2_reason_40 : decode cX2_reason 40 = .ok (.getfield 12, 3) := by decide +kernel
theorem dX2_reason_43 : decode cX2_reason 43 = .ok (.aload_n 1, 1) := by decide +kernel
theorem dX2_reason_44 : decode cX2_reason 44 = .ok (.iload_n 2, 1) := by decide +kernel
theorem dX2_reason_45 : decode cX2_reason 45 = .ok (.iload_n 3, 1) := by decide +kernel
theorem dX2_reason_46 : decode cX2_reason 46 = .ok (.iload 4, 2) := by decide +kernel
theorem dX2_reason_48 : decode cX2_reason 48 = .ok (.invokevirtual 32, 3) := by decide +kernel
theorem dX2_reason_51 : decode cX2_reason 51 = .ok (.aload_n 0, 1) := by decide +kernel
theorem dX2_reason_52 : decode cX2_reason 52 = .ok (.aload_n 1, 1) := by decide +kernel
theorem dX2_reason_53 : decode cX2_reason 53 = .ok (.invokevirtual 36, 3) := by decide +kernel
theorem dX2_reason_56 : decode cX2_reason 56 = .ok (.ifCond .eq 7, 3) := by decide +kernel
theorem dX2_reason_59 : decode cX2_reason 59 = .ok (.iconst 1, 1) := by decide +kernel
theorem dX2_reason_60 : decode cX2_reason 60 = .ok (.goto 4, 3) := by decide +kernel
theorem dX2_reason_63 : decode cX2_reason 63 = .ok (.iconst 0, 1) := by decide +kernel
theorem dX2_reason_64 : decode cX2_reason 64 = .ok (.istore 5, 2) := by decide +kernel
theorem dX2_reason_66 : decode cX2_reason 66 = .ok (.aload_n 0, 1) := by decide +kernel
theorem dX2_reason_67 : decode cX2_reason 67 = .ok (.invokevirtual 40, 3) := by decide +kernel
theorem dX2_reason_70 : decode cX2_reason 70 = .ok (.ifCond .eq 7, 3) := by decide +kernel
theorem dX2_reason_73 : decode cX2_reason 73 = .ok (.iconst 1, 1) := by decide +kernel
theorem dX2_reason_74 : decode cX2_reason 74 = .ok (.goto 4, 3) := by decide +kernel
theorem dX2_reason_77 : decode cX2_reason 77 = .ok (.iconst 0, 1) := by decide +kernel
theorem dX2_reason_78 : decode cX2_reason 78 = .ok (.istore 6, 2) := by decide +kernel
theorem dX2_reason_80 : decode cX2_reason 80 = .ok (.aload_n 0, 1) := by decide +kernel
theorem dX2_reason_81 : decode cX2_reason 81 = .ok (.getfield 12, 3) := by decide +kernel
theorem dX2_reason_84 : decode cX2_reason 84 = .ok (.iload_n 2, 1) := by decide +kernel
theorem dX2_reason_85 : decode cX2_reason 85 = .ok (.invokevirtual 44, 3) := by decide +kernel
theorem dX2_reason_88 : decode cX2_reason 88 = .ok (.iload 5, 2) := by decide +kernel
theorem dX2_reason_90 : decode cX2_reason 90 = .ok (.ifCond .ne 11, 3) := by decide +kernel
theorem dX2_reason_93 : decode cX2_reason 93 = .ok (.aload_n 0, 1) := by decide +kernel
theorem dX2_reason_94 : decode cX2_reason 94 = .ok (.aload_n 1, 1) := by decide +kernel
theorem dX2_reason_95 : decode cX2_reason 95 = .ok (.invokevirtual 36, 3) := by decide +kernel
theorem dX2_reason_98 : decode cX2_reason 98 = .ok (.ifCond .eq 5, 3) := by decide +kernel
theorem dX2_reason_101 : decode cX2_reason 101 = .ok (.iconst 4, 1) := by decide +kernel
theorem dX2_reason_102 : decode cX2_reason 102 = .ok (.ireturn, 1) := by decide +kernel
theorem dX2_reason_103 : decode cX2_reason 103 = .ok (.iload 6, 2) := by decide +kernel
theorem dX2_reason_105 : decode cX2_reason 105 = .ok (.ifCond .ne 10, 3) := by decide +kernel
theorem dX2_reason_108 : decode cX2_reason 108 = .ok (.aload_n 0, 1) := by decide +kernel
theorem dX2_reason_109 : decode cX2_reason 109 = .ok (.invokevirtual 40, 3) := by decide +kernel
theorem dX2_reason_112 : decode cX2_reason 112 = .ok (.ifCond .eq 5, 3) := by decide +kernel
theorem dX2_reason_115 : decode cX2_reason 115 = .ok (.iconst 5, 1) := by decide +kernel
theorem dX2_reason_116 : decode cX2_reason 116 = .ok (.ireturn, 1) := by decide +kernel
theorem dX2_reason_117 : decode cX2_reason 117 = .ok (.aload_n 0, 1) := by decide +kernel
theorem dX2_reason_118 : decode cX2_reason 118 = .ok (.getfield 12, 3) := by decide +kernel
theorem dX2_reason_121 : decode cX2_reason 121 = .ok (.invokevirtual 48, 3) := by decide +kernel
theorem dX2_reason_124 : decode cX2_reason 124 = .ok (.ifCond .eq 8, 3) := by decide +kernel
theorem dX2_reason_127 : decode cX2_reason 127 = .ok (.bipush 6, 2) := by decide +kernel
theorem dX2_reason_129 : decode cX2_reason 129 = .ok (.goto 4, 3) := by decide +kernel
theorem dX2_reason_132 : decode cX2_reason 132 = .ok (.iconst 0, 1) := by decide +kernel
theorem dX2_reason_133 : decode cX2_reason 133 = .ok (.ireturn, 1) := by decide +kernel
set_option maxRecDepth 20000 in
theorem ggX2_upperStrikers_X3_layFlat : GoodIn wsX2_upperStrikers wsX3_layFlat := goodIn_r _ [6, 7, 8, 9, 10, 11, 12, 13, 14, 15, 5, 16, 17, 18, 19, 20, 21, 22, 23, 24, 25, 26, 27, 28, 29, 30, 31, 32, 33, 34, 35, 36, 37, 38, 39, 40, 41, 42, 43, 44, 45, 66, 67, 68, 69, 70, 71, 72, 73, 74, 75, 76, 77, 78, 79, 80, 81, 82, 83] (by decide +kernel) (by decide +kernel)
set_option maxRecDepth 20000 in
theorem gX2_upperStrikers_X3_layFlat : GoodIn wsX2_upperStrikers (wsV RX2 32 RX3 yX3_layFlat wsX3_layFlat) := goodIn_app (goodIn_of _ (by decide +kernel)) ggX2_upperStrikers_X3_layFlat
set_option maxRecDepth 20000 in
theorem ggX2_upperStrikers_X2_inUpper : GoodIn wsX2_upperStrikers wsX2_inUpper := goodIn_r _ [50, 1, 51, 9, 10, 11, 52, 53, 54, 24, 55, 56, 57, 58, 59, 5, 60, 12, 41, 40, 42, 43, 65, 66, 67, 68, 69, 70, 71, 72, 73, 74, 75, 76, 77, 78, 79, 80, 81, 82, 83] (by decide +kernel) (by decide +kernel)
set_option maxRecDepth 20000 in
theorem gX2_upperStrikers_X2_inUpper : GoodIn wsX2_upperStrikers (wsV RX2 36 RX2 yX2_inUpper wsX2_inUpper) := goodIn_app (goodIn_of _ (by decide +kernel)) ggX2_upperStrikers_X2_inUpper
set_option maxRecDepth 20000 in
theorem ggX2_upperStrikers_X3_swingUp : GoodIn wsX2_upperStrikers wsX3_swingUp := goodIn_r _ [64, 40, 41, 42, 43, 73, 74, 75, 76, 77, 78, 79, 80, 81, 82, 83] (by decide +kernel) (by decide +kernel)
set_option maxRecDepth 20000 in
theorem gX2_upperStrikers_X3_swingUp : GoodIn wsX2_upperStrikers (wsV RX2 44 RX3 yX3_swingUp wsX3_swingUp) := goodIn_app (goodIn_of _ (by decide +kernel)) ggX2_upperStrikers_X3_swingUp
theorem dX2_upperStrikers_0 : decode cX2_upperStrikers 0 = .ok (.aload_n 0, 1) := by decide +kernel
theorem dX2_upperStrikers_1 : decode cX2_upperStrikers 1 = .ok (.getfield 12, 3) := by decide +kernel
theorem dX2_upperStrikers_4 : decode cX2_upperStrikers 4 = .ok (.aload_n 1, 1) := by decide +kernel
theorem dX2_upperStrikers_5 : decode cX2_upperStrikers 5 = .ok (.iload_n 2, 1) := by decide +kernel
theorem dX2_upperStrikers_6 : decode cX2_upperStrikers 6 = .ok (.iload_n 3, 1) := by decide +kernel
theorem dX2_upperStrikers_7 : decode cX2_upperStrikers 7 = .ok (.iload 4, 2) := by decide +kernel
theorem dX2_upperStrikers_9 : decode cX2_upperStrikers 9 = .ok (.invokevirtual 32, 3) := by decide +kernel
theorem dX2_upperStrikers_12 : decode cX2_upperStrikers 12 = .ok (.aload_n 0, 1) := by decide +kernel
theorem dX2_upperStrikers_13 : decode cX2_upperStrikers 13 = .ok (.aload_n 1, 1) := by decide +kernel
theorem dX2_upperStrikers_14 : decode cX2_upperStrikers 14 = .ok (.invokevirtual 36, 3) := by decide +kernel
theorem dX2_upperStrikers_17 : decode cX2_upperStrikers 17 = .ok (.istore 5, 2) := by decide +kernel
theorem dX2_upperStrikers_19 : decode cX2_upperStrikers 19 = .ok (.aload_n 0, 1) := by decide +kernel
theorem dX2_upperStrikers_20 : decode cX2_upperStrikers 20 = .ok (.getfield 12, 3) := by decide +kernel
theorem dX2_upperStrikers_23 : decode cX2_upperStrikers 23 = .ok (.iload_n 2, 1) := by decide +kernel
theorem dX2_upperStrikers_24 : decode cX2_upperStrikers 24 = .ok (.invokevirtual 44, 3) := by decide +kernel
theorem dX2_upperStrikers_27 : decode cX2_upperStrikers 27 = .ok (.iload 5, 2) := by decide +kernel
theorem dX2_upperStrikers_29 : decode cX2_upperStrikers 29 = .ok (.aload_n 0, 1) := by decide +kernel
theorem dX2_upperStrikers_30 : decode cX2_upperStrikers 30 = .ok (.aload_n 1, 1) := by decide +kernel
theorem dX2_upperStrikers_31 : decode cX2_upperStrikers 31 = .ok (.invokevirtual 36, 3) := by decide +kernel
theorem dX2_upperStrikers_34 : decode cX2_upperStrikers 34 = .ok (.ior, 1) := by decide +kernel
theorem dX2_upperStrikers_35 : decode cX2_upperStrikers 35 = .ok (.ireturn, 1) := by decide +kernel
set_option maxRecDepth 20000 in
theorem ggX2_farEnd_X3_layFlat : GoodIn wsX2_farEnd wsX3_layFlat := goodIn_r _ [8, 9, 10, 11, 12, 13, 14, 15, 16, 17, 7, 18, 19, 20, 21, 22, 23, 24, 25, 26, 27, 28, 29, 30, 31, 32, 33, 34, 35, 36, 37, 38, 39, 40, 41, 42, 43, 44, 45, 46, 47, 57, 58, 59, 60, 61, 62, 63, 64, 65, 66, 67, 68, 69, 70, 71, 72, 73, 74] (by decide +kernel) (by decide +kernel)
set_option maxRecDepth 20000 in
theorem gX2_farEnd_X3_layFlat : GoodIn wsX2_farEnd (wsV RX2 32 RX3 yX3_layFlat wsX3_layFlat) := goodIn_app (goodIn_of _ (by decide +kernel)) ggX2_farEnd_X3_layFlat
set_option maxRecDepth 20000 in
theorem ggX2_farEnd_X3_farEndY : GoodIn wsX2_farEnd wsX3_farEndY := goodIn_r _ [51, 47, 64, 65, 66, 67, 68, 69, 70, 71, 72, 73, 74] (by decide +kernel) (by decide +kernel)
set_option maxRecDepth 20000 in
theorem gX2_farEnd_X3_farEndY : GoodIn wsX2_farEnd (wsV RX2 60 RX3 yX3_farEndY wsX3_farEndY) := goodIn_app (goodIn_of _ (by decide +kernel)) ggX2_farEnd_X3_farEndY
set_option maxRecDepth 20000 in
theorem ggX2_farEnd_X3_farEndX : GoodIn wsX2_farEnd wsX3_farEndX := goodIn_r _ [55, 46, 64, 65, 66, 67, 68, 69, 70, 71, 72, 73, 74] (by decide +kernel) (by decide +kernel)
set_option maxRecDepth 20000 in
theorem gX2_farEnd_X3_farEndX : GoodIn wsX2_farEnd (wsV RX2 63 RX3 yX3_farEndX wsX3_farEndX) := goodIn_app (goodIn_of _ (by decide +kernel)) ggX2_farEnd_X3_farEndX
theorem dX2_farEnd_0 : decode cX2_farEnd 0 = .ok (.aload_n 0, 1) := by decide +kernel
theorem dX2_farEnd_1 : decode cX2_farEnd 1 = .ok (.getfield 12, 3) := by decide +kernel
theorem dX2_farEnd_4 : decode cX2_farEnd 4 = .ok (.aload_n 1, 1) := by decide +kernel
theorem dX2_farEnd_5 : decode cX2_farEnd 5 = .ok (.iload_n 2, 1) := by decide +kernel
theorem dX2_farEnd_6 : decode cX2_farEnd 6 = .ok (.aload_n 1, 1) := by decide +kernel
theorem dX2_farEnd_7 : decode cX2_farEnd 7 = .ok (.getfield 52, 3) := by decide +kernel
theorem dX2_farEnd_10 : decode cX2_farEnd 10 = .ok (.aload_n 1, 1) := by decide +kernel
theorem dX2_farEnd_11 : decode cX2_farEnd 11 = .ok (.getfield 56, 3) := by decide +kernel
theorem dX2_farEnd_14 : decode cX2_farEnd 14 = .ok (.invokevirtual 32, 3) := by decide +kernel
theorem dX2_farEnd_17 : decode cX2_farEnd 17 = .ok (.iload 4, 2) := by decide +kernel
theorem dX2_farEnd_19 : decode cX2_farEnd 19 = .ok (.ifCond .eq 14, 3) := by decide +kernel
theorem dX2_farEnd_22 : decode cX2_farEnd 22 = .ok (.aload_n 0, 1) := by decide +kernel
theorem dX2_farEnd_23 : decode cX2_farEnd 23 = .ok (.getfield 12, 3) := by decide +kernel
theorem dX2_farEnd_26 : decode cX2_farEnd 26 = .ok (.iload_n 3, 1) := by decide +kernel
theorem dX2_farEnd_27 : decode cX2_farEnd 27 = .ok (.invokevirtual 60, 3) := by decide +kernel
theorem dX2_farEnd_30 : decode cX2_farEnd 30 = .ok (.goto 11, 3) := by decide +kernel
theorem dX2_farEnd_33 : decode cX2_farEnd 33 = .ok (.aload_n 0, 1) := by decide +kernel
theorem dX2_farEnd_34 : decode cX2_farEnd 34 = .ok (.getfield 12, 3) := by decide +kernel
theorem dX2_farEnd_37 : decode cX2_farEnd 37 = .ok (.iload_n 3, 1) := by decide +kernel
theorem dX2_farEnd_38 : decode cX2_farEnd 38 = .ok (.invokevirtual 63, 3) := by decide +kernel
theorem dX2_farEnd_41 : decode cX2_farEnd 41 = .ok (.ireturn, 1) := by decide +kernel
set_option maxRecDepth 20000 in
theorem ggX2_inUpper_X4_settingAt : GoodIn wsX2_inUpper wsX4_settingAt := goodIn_r _ [10, 11, 23, 24, 25, 26, 27, 28, 29] (by decide +kernel) (by decide +kernel)
set_option maxRecDepth 20000 in
theorem gX2_inUpper_X4_settingAt : GoodIn wsX2_inUpper (wsV RX2 28 RX4 yX4_settingAt wsX4_settingAt) := goodIn_app (goodIn_of _ (by decide +kernel)) ggX2_inUpper_X4_settingAt
set_option maxRecDepth 20000 in
theorem ggX2_inUpper_X3_flangesIn : GoodIn wsX2_inUpper wsX3_flangesIn := goodIn_r _ [16, 17, 18, 19, 20, 21, 30, 31, 32, 33, 34, 35, 36, 37, 38, 39, 40] (by decide +kernel) (by decide +kernel)
set_option maxRecDepth 20000 in
theorem gX2_inUpper_X3_flangesIn : GoodIn wsX2_inUpper (wsV RX2 71 RX3 yX3_flangesIn wsX3_flangesIn) := goodIn_app (goodIn_of _ (by decide +kernel)) ggX2_inUpper_X3_flangesIn
theorem dX2_inUpper_0 : decode cX2_inUpper 0 = .ok (.aload_n 1, 1) := by decide +kernel
theorem dX2_inUpper_1 : decode cX2_inUpper 1 = .ok (.iconst 0, 1) := by decide +kernel
theorem dX2_inUpper_2 : decode cX2_inUpper 2 = .ok (.invokevirtual 28, 3) := by decide +kernel
theorem dX2_inUpper_5 : decode cX2_inUpper 5 = .ok (.istore_n 2, 1) := by decide +kernel
theorem dX2_inUpper_6 : decode cX2_inUpper 6 = .ok (.aload_n 1, 1) := by decide +kernel
theorem dX2_inUpper_7 : decode cX2_inUpper 7 = .ok (.iconst 1, 1) := by decide +kernel
theorem dX2_inUpper_8 : decode cX2_inUpper 8 = .ok (.invokevirtual 28, 3) := by decide +kernel
theorem dX2_inUpper_11 : decode cX2_inUpper 11 = .ok (.istore_n 3, 1) := by decide +kernel
theorem dX2_inUpper_12 : decode cX2_inUpper 12 = .ok (.aload_n 0, 1) := by decide +kernel
theorem dX2_inUpper_13 : decode cX2_inUpper 13 = .ok (.getfield 12, 3) := by decide +kernel
theorem dX2_inUpper_16 : decode cX2_inUpper 16 = .ok (.iconst 1, 1) := by decide +kernel
theorem dX2_inUpper_17 : decode cX2_inUpper 17 = .ok (.iconst 1, 1) := by decide +kernel
theorem dX2_inUpper_18 : decode cX2_inUpper 18 = .ok (.iconst 1, 1) := by decide +kernel
theorem dX2_inUpper_19 : decode cX2_inUpper 19 = .ok (.iconst 2, 1) := by decide +kernel
theorem dX2_inUpper_20 : decode cX2_inUpper 20 = .ok (.iload_n 2, 1) := by decide +kernel
theorem dX2_inUpper_21 : decode cX2_inUpper 21 = .ok (.invokestatic 66, 3) := by decide +kernel
theorem dX2_inUpper_24 : decode cX2_inUpper 24 = .ok (.invokevirtual 71, 3) := by decide +kernel
theorem dX2_inUpper_27 : decode cX2_inUpper 27 = .ok (.istore 4, 2) := by decide +kernel
theorem dX2_inUpper_29 : decode cX2_inUpper 29 = .ok (.aload_n 0, 1) := by decide +kernel
theorem dX2_inUpper_30 : decode cX2_inUpper 30 = .ok (.getfield 12, 3) := by decide +kernel
theorem dX2_inUpper_33 : decode cX2_inUpper 33 = .ok (.iconst 1, 1) := by decide +kernel
theorem dX2_inUpper_34 : decode cX2_inUpper 34 = .ok (.iconst 1, 1) := by decide +kernel
theorem dX2_inUpper_35 : decode cX2_inUpper 35 = .ok (.iload_n 3, 1) := by decide +kernel
theorem dX2_inUpper_36 : decode cX2_inUpper 36 = .ok (.iadd, 1) := by decide +kernel
theorem dX2_inUpper_37 : decode cX2_inUpper 37 = .ok (.iconst 3, 1) := by decide +kernel
theorem dX2_inUpper_38 : decode cX2_inUpper 38 = .ok (.iload_n 2, 1) := by decide +kernel
theorem dX2_inUpper_39 : decode cX2_inUpper 39 = .ok (.invokevirtual 71, 3) := by decide +kernel
theorem dX2_inUpper_42 : decode cX2_inUpper 42 = .ok (.istore 5, 2) := by decide +kernel
theorem dX2_inUpper_44 : decode cX2_inUpper 44 = .ok (.iload 4, 2) := by decide +kernel
theorem dX2_inUpper_46 : decode cX2_inUpper 46 = .ok (.iload 5, 2) := by decide +kernel
theorem dX2_inUpper_48 : decode cX2_inUpper 48 = .ok (.ior, 1) := by decide +kernel
theorem dX2_inUpper_49 : decode cX2_inUpper 49 = .ok (.ireturn, 1) := by decide +kernel
set_option maxRecDepth 20000 in
theorem ggX2_inLower_X3_flangesIn : GoodIn wsX2_inLower wsX3_flangesIn := goodIn_r _ [6, 7, 8, 9, 10, 11, 13, 14, 15, 16, 17, 18, 19, 20, 21, 22, 23] (by decide +kernel) (by decide +kernel)
set_option maxRecDepth 20000 in
theorem gX2_inLower_X3_flangesIn : GoodIn wsX2_inLower (wsV RX2 71 RX3 yX3_flangesIn wsX3_flangesIn) := goodIn_app (goodIn_of _ (by decide +kernel)) ggX2_inLower_X3_flangesIn
theorem dX2_inLower_0 : decode cX2_inLower 0 = .ok (.aload_n 0, 1) := by decide +kernel
theorem dX2_inLower_1 : decode cX2_inLower 1 = .ok (.getfield 12, 3) := by decide +kernel
theorem dX2_inLower_4 : decode cX2_inLower 4 = .ok (.iconst 1, 1) := by decide +kernel
theorem dX2_inLower_5 : decode cX2_inLower 5 = .ok (.iconst 3, 1) := by decide +kernel
theorem dX2_inLower_6 : decode cX2_inLower 6 = .ok (.bipush (-3), 2) := by decide +kernel
theorem dX2_inLower_8 : decode cX2_inLower 8 = .ok (.iconst (-1), 1) := by decide +kernel
theorem dX2_inLower_9 : decode cX2_inLower 9 = .ok (.invokevirtual 71, 3) := by decide +kernel
theorem dX2_inLower_12 : decode cX2_inLower 12 = .ok (.ireturn, 1) := by decide +kernel
theorem dX3_init_0 : decode cX3_init 0 = .ok (.aload_n 0, 1) := by decide +kernel
theorem dX3_init_1 : decode cX3_init 1 = .ok (.invokespecial 3, 3) := by decide +kernel
theorem dX3_init_4 : decode cX3_init 4 = .ok (.aload_n 0, 1) := by decide +kernel
theorem dX3_init_5 : decode cX3_init 5 = .ok (.bipush 8, 2) := by decide +kernel
theorem dX3_init_7 : decode cX3_init 7 = .ok (.newarray .int, 2) := by decide +kernel
theorem dX3_init_9 : decode cX3_init 9 = .ok (.putfield 9, 3) := by decide +kernel
theorem dX3_init_12 : decode cX3_init 12 = .ok (.aload_n 0, 1) := by decide +kernel
theorem dX3_init_13 : decode cX3_init 13 = .ok (.bipush 8, 2) := by decide +kernel
theorem dX3_init_15 : decode cX3_init 15 = .ok (.newarray .int, 2) := by decide +kernel
theorem dX3_init_17 : decode cX3_init 17 = .ok (.putfield 15, 3) := by decide +kernel
theorem dX3_init_20 : decode cX3_init 20 = .ok (.aload_n 0, 1) := by decide +kernel
theorem dX3_init_21 : decode cX3_init 21 = .ok (.bipush 8, 2) := by decide +kernel
theorem dX3_init_23 : decode cX3_init 23 = .ok (.newarray .int, 2) := by decide +kernel
theorem dX3_init_25 : decode cX3_init 25 = .ok (.putfield 18, 3) := by decide +kernel
theorem dX3_init_28 : decode cX3_init 28 = .ok (.aload_n 0, 1) := by decide +kernel
theorem dX3_init_29 : decode cX3_init 29 = .ok (.bipush 8, 2) := by decide +kernel
theorem dX3_init_31 : decode cX3_init 31 = .ok (.newarray .int, 2) := by decide +kernel
theorem dX3_init_33 : decode cX3_init 33 = .ok (.putfield 21, 3) := by decide +kernel
theorem dX3_init_36 : decode cX3_init 36 = .ok (.aload_n 0, 1) := by decide +kernel
theorem dX3_init_37 : decode cX3_init 37 = .ok (.bipush 8, 2) := by decide +kernel
theorem dX3_init_39 : decode cX3_init 39 = .ok (.newarray .int, 2) := by decide +kernel
theorem dX3_init_41 : decode cX3_init 41 = .ok (.putfield 24, 3) := by decide +kernel
theorem dX3_init_44 : decode cX3_init 44 = .ok (.aload_n 0, 1) := by decide +kernel
theorem dX3_init_45 : decode cX3_init 45 = .ok (.bipush 8, 2) := by decide +kernel
theorem dX3_init_47 : decode cX3_init 47 = .ok (.newarray .int, 2) := by decide +kernel
theorem dX3_init_49 : decode cX3_init 49 = .ok (.putfield 27, 3) := by decide +kernel
theorem dX3_init_52 : decode cX3_init 52 = .ok (.return_, 1) := by decide +kernel
set_option maxRecDepth 20000 in
theorem ggX3_layFlat_X3_startAtTool : GoodIn wsX3_layFlat wsX3_startAtTool := goodIn_r _ [11, 12, 13, 14, 15, 48, 49, 50, 51, 52, 53, 54, 55, 56, 57, 58] (by decide +kernel) (by decide +kernel)
set_option maxRecDepth 20000 in
theorem gX3_layFlat_X3_startAtTool : GoodIn wsX3_layFlat (wsV RX3 45 RX3 yX3_startAtTool wsX3_startAtTool) := goodIn_app (goodIn_of _ (by decide +kernel)) ggX3_layFlat_X3_startAtTool
set_option maxRecDepth 20000 in
theorem ggX3_layFlat_X4_isUp : GoodIn wsX3_layFlat wsX4_isUp := goodIn_r _ [20, 21, 41, 42, 43, 44, 45, 46, 47] (by decide +kernel) (by decide +kernel)
set_option maxRecDepth 20000 in
theorem gX3_layFlat_X4_isUp : GoodIn wsX3_layFlat (wsV RX3 49 RX4 yX4_isUp wsX4_isUp) := goodIn_app (goodIn_of _ (by decide +kernel)) ggX3_layFlat_X4_isUp
set_option maxRecDepth 20000 in
theorem ggX3_layFlat_X3_turnAt : GoodIn wsX3_layFlat wsX3_turnAt := goodIn_r _ [25, 14, 15, 48, 49, 50, 51, 52, 53, 54, 55, 56, 57, 58] (by decide +kernel) (by decide +kernel)
set_option maxRecDepth 20000 in
theorem gX3_layFlat_X3_turnAt : GoodIn wsX3_layFlat (wsV RX3 53 RX3 yX3_turnAt wsX3_turnAt) := goodIn_app (goodIn_of _ (by decide +kernel)) ggX3_layFlat_X3_turnAt
set_option maxRecDepth 20000 in
theorem ggX3_layFlat_X4_lengthAt : GoodIn wsX3_layFlat wsX4_lengthAt := goodIn_r _ [29, 30, 41, 42, 43, 44, 45, 46, 47] (by decide +kernel) (by decide +kernel)
set_option maxRecDepth 20000 in
theorem gX3_layFlat_X4_lengthAt : GoodIn wsX3_layFlat (wsV RX3 57 RX4 yX4_lengthAt wsX4_lengthAt) := goodIn_app (goodIn_of _ (by decide +kernel)) ggX3_layFlat_X4_lengthAt
set_option maxRecDepth 20000 in
theorem ggX3_layFlat_X3_draw : GoodIn wsX3_layFlat wsX3_draw := goodIn_r _ [34, 12, 13, 14, 15, 35, 36, 37, 38, 39, 40, 48, 49, 50, 51, 52, 53, 54, 55, 56, 57, 58] (by decide +kernel) (by decide +kernel)
set_option maxRecDepth 20000 in
theorem gX3_layFlat_X3_draw : GoodIn wsX3_layFlat (wsV RX3 61 RX3 yX3_draw wsX3_draw) := goodIn_app (goodIn_of _ (by decide +kernel)) ggX3_layFlat_X3_draw
theorem dX3_layFlat_0 : decode cX3_layFlat 0 = .ok (.iload_n 3, 1) := by decide +kernel
theorem dX3_layFlat_1 : decode cX3_layFlat 1 = .ok (.iconst 1, 1) := by decide +kernel
theorem dX3_layFlat_2 : decode cX3_layFlat 2 = .ok (.iload_n 2, 1) := by decide +kernel
theorem dX3_layFlat_3 : decode cX3_layFlat 3 = .ok (.ishl, 1) := by decide +kernel
theorem dX3_layFlat_4 : decode cX3_layFlat 4 = .ok (.iconst (-1), 1) := by decide +kernel
theorem dX3_layFlat_5 : decode cX3_layFlat 5 = .ok (.ixor, 1) := by decide +kernel
theorem dX3_layFlat_6 : decode cX3_layFlat 6 = .ok (.iand, 1) := by decide +kernel
theorem dX3_layFlat_7 : decode cX3_layFlat 7 = .ok (.istore 5, 2) := by decide +kernel
theorem dX3_layFlat_9 : decode cX3_layFlat 9 = .ok (.aload_n 0, 1) := by decide +kernel
theorem dX3_layFlat_10 : decode cX3_layFlat 10 = .ok (.aload_n 1, 1) := by decide +kernel
theorem dX3_layFlat_11 : decode cX3_layFlat 11 = .ok (.getfield 30, 3) := by decide +kernel
theorem dX3_layFlat_14 : decode cX3_layFlat 14 = .ok (.iconst 1, 1) := by decide +kernel
theorem dX3_layFlat_15 : decode cX3_layFlat 15 = .ok (.iadd, 1) := by decide +kernel
theorem dX3_layFlat_16 : decode cX3_layFlat 16 = .ok (.bipush 8, 2) := by decide +kernel
theorem dX3_layFlat_18 : decode cX3_layFlat 18 = .ok (.invokestatic 36, 3) := by decide +kernel
theorem dX3_layFlat_21 : decode cX3_layFlat 21 = .ok (.putfield 42, 3) := by decide +kernel
theorem dX3_layFlat_24 : decode cX3_layFlat 24 = .ok (.aload_n 0, 1) := by decide +kernel
theorem dX3_layFlat_25 : decode cX3_layFlat 25 = .ok (.iconst 1, 1) := by decide +kernel
theorem dX3_layFlat_26 : decode cX3_layFlat 26 = .ok (.invokevirtual 45, 3) := by decide +kernel
theorem dX3_layFlat_29 : decode cX3_layFlat 29 = .ok (.iload_n 2, 1) := by decide +kernel
theorem dX3_layFlat_30 : decode cX3_layFlat 30 = .ok (.iconst 1, 1) := by decide +kernel
theorem dX3_layFlat_31 : decode cX3_layFlat 31 = .ok (.iadd, 1) := by decide +kernel
theorem dX3_layFlat_32 : decode cX3_layFlat 32 = .ok (.istore 6, 2) := by decide +kernel
theorem dX3_layFlat_34 : decode cX3_layFlat 34 = .ok (.iload 6, 2) := by decide +kernel
theorem dX3_layFlat_36 : decode cX3_layFlat 36 = .ok (.aload_n 0, 1) := by decide +kernel
theorem dX3_layFlat_37 : decode cX3_layFlat 37 = .ok (.getfield 42, 3) := by decide +kernel
theorem dX3_layFlat_40 : decode cX3_layFlat 40 = .ok (.if_icmp .ge 49, 3) := by decide +kernel
theorem dX3_layFlat_43 : decode cX3_layFlat 43 = .ok (.aload_n 0, 1) := by decide +kernel
theorem dX3_layFlat_44 : decode cX3_layFlat 44 = .ok (.iload 6, 2) := by decide +kernel
theorem dX3_layFlat_46 : decode cX3_layFlat 46 = .ok (.iconst 1, 1) := by decide +kernel
theorem dX3_layFlat_47 : decode cX3_layFlat 47 = .ok (.isub, 1) := by decide +kernel
theorem dX3_layFlat_48 : decode cX3_layFlat 48 = .ok (.iload 5, 2) := by decide +kernel
theorem dX3_layFlat_50 : decode cX3_layFlat 50 = .ok (.aload_n 1, 1) := by decide +kernel
theorem dX3_layFlat_51 : decode cX3_layFlat 51 = .ok (.iload 6, 2) := by decide +kernel
theorem dX3_layFlat_53 : decode cX3_layFlat 53 = .ok (.iconst 1, 1) := by decide +kernel
theorem dX3_layFlat_54 : decode cX3_layFlat 54 = .ok (.isub, 1) := by decide +kernel
theorem dX3_layFlat_55 : decode cX3_layFlat 55 = .ok (.invokevirtual 49, 3) := by decide +kernel
theorem dX3_layFlat_58 : decode cX3_layFlat 58 = .ok (.iload 4, 2) := by decide +kernel
theorem dX3_layFlat_60 : decode cX3_layFlat 60 = .ok (.if_icmp .eq 7, 3) := by decide +kernel
theorem dX3_layFlat_63 : decode cX3_layFlat 63 = .ok (.iconst 1, 1) := by decide +kernel
theorem dX3_layFlat_64 : decode cX3_layFlat 64 = .ok (.goto 4, 3) := by decide +kernel
theorem dX3_layFlat_67 : decode cX3_layFlat 67 = .ok (.iconst 0, 1) := by decide +kernel
theorem dX3_layFlat_68 : decode cX3_layFlat 68 = .ok (.invokevirtual 53, 3) := by decide +kernel
theorem dX3_layFlat_71 : decode cX3_layFlat 71 = .ok (.aload_n 0, 1) := by decide +kernel
theorem dX3_layFlat_72 : decode cX3_layFlat 72 = .ok (.iload 6, 2) := by decide +kernel
theorem dX3_layFlat_74 : decode cX3_layFlat 74 = .ok (.aload_n 1, 1) := by decide +kernel
theorem dX3_layFlat_75 : decode cX3_layFlat 75 = .ok (.iload 6, 2) := by decide +kernel
theorem dX3_layFlat_77 : decode cX3_layFlat 77 = .ok (.invokevirtual 57, 3) := by decide +kernel
theorem dX3_layFlat_80 : decode cX3_layFlat 80 = .ok (.invokevirtual 61, 3) := by decide +kernel
theorem dX3_layFlat_83 : decode cX3_layFlat 83 = .ok (.iinc 6 1, 3) := by decide +kernel
theorem dX3_layFlat_86 : decode cX3_layFlat 86 = .ok (.goto (-52), 3) := by decide +kernel
theorem dX3_layFlat_89 : decode cX3_layFlat 89 = .ok (.aload_n 0, 1) := by decide +kernel
theorem dX3_layFlat_90 : decode cX3_layFlat 90 = .ok (.iconst (-1), 1) := by decide +kernel
theorem dX3_layFlat_91 : decode cX3_layFlat 91 = .ok (.invokevirtual 45, 3) := by decide +kernel
theorem dX3_layFlat_94 : decode cX3_layFlat 94 = .ok (.iload_n 2, 1) := by decide +kernel
theorem dX3_layFlat_95 : decode cX3_layFlat 95 = .ok (.istore 6, 2) := by decide +kernel
theorem dX3_layFlat_97 : decode cX3_layFlat 97 = .ok (.iload 6, 2) := by decide +kernel
theorem dX3_layFlat_99 : decode cX3_layFlat 99 = .ok (.ifCond .lt 45, 3) := by decide +kernel
theorem dX3_layFlat_102 : decode cX3_layFlat 102 = .ok (.aload_n 0, 1) := by decide +kernel
theorem dX3_layFlat_103 : decode cX3_layFlat 103 = .ok (.iload 6, 2) := by decide +kernel
theorem dX3_layFlat_105 : decode cX3_layFlat 105 = .ok (.iload 5, 2) := by decide +kernel
theorem dX3_layFlat_107 : decode cX3_layFlat 107 = .ok (.aload_n 1, 1) := by decide +kernel
theorem dX3_layFlat_108 : decode cX3_layFlat 108 = .ok (.iload 6, 2) := by decide +kernel
theorem dX3_layFlat_110 : decode cX3_layFlat 110 = .ok (.invokevirtual 49, 3) := by decide +kernel
theorem dX3_layFlat_113 : decode cX3_layFlat 113 = .ok (.iload 4, 2) := by decide +kernel
theorem dX3_layFlat_115 : decode cX3_layFlat 115 = .ok (.if_icmp .ne 7, 3) := by decide +kernel
theorem dX3_layFlat_118 : decode cX3_layFlat 118 = .ok (.iconst 1, 1) := by decide +kernel
theorem dX3_layFlat_119 : decode cX3_layFlat 119 = .ok (.goto 4, 3) := by decide +kernel
theorem dX3_layFlat_122 : decode cX3_layFlat 122 = .ok (.iconst 0, 1) := by decide +kernel
theorem dX3_layFlat_123 : decode cX3_layFlat 123 = .ok (.invokevirtual 53, 3) := by decide +kernel
theorem dX3_layFlat_126 : decode cX3_layFlat 126 = .ok (.aload_n 0, 1) := by decide +kernel
theorem dX3_layFlat_127 : decode cX3_layFlat 127 = .ok (.iload 6, 2) := by decide +kernel
theorem dX3_layFlat_129 : decode cX3_layFlat 129 = .ok (.aload_n 1, 1) := by decide +kernel
theorem dX3_layFlat_130 : decode cX3_layFlat 130 = .ok (.iload 6, 2) := by decide +kernel
theorem dX3_layFlat_132 : decode cX3_layFlat 132 = .ok (.invokevirtual 57, 3) := by decide +kernel
theorem dX3_layFlat_135 : decode cX3_layFlat 135 = .ok (.invokevirtual 61, 3) := by decide +kernel
theorem dX3_layFlat_138 : decode cX3_layFlat 138 = .ok (.iinc 6 (-1), 3) := by decide +kernel
theorem dX3_layFlat_141 : decode cX3_layFlat 141 = .ok (.goto (-44), 3) := by decide +kernel
theorem dX3_layFlat_144 : decode cX3_layFlat 144 = .ok (.return_, 1) := by decide +kernel
theorem dX3_startAtTool_0 : decode cX3_startAtTool 0 = .ok (.aload_n 0, 1) := by decide +kernel
theorem dX3_startAtTool_1 : decode cX3_startAtTool 1 = .ok (.iconst 0, 1) := by decide +kernel
theorem dX3_startAtTool_2 : decode cX3_startAtTool 2 = .ok (.putfield 65, 3) := by decide +kernel
theorem dX3_startAtTool_5 : decode cX3_startAtTool 5 = .ok (.aload_n 0, 1) := by decide +kernel
theorem dX3_startAtTool_6 : decode cX3_startAtTool 6 = .ok (.iconst 0, 1) := by decide +kernel
theorem dX3_startAtTool_7 : decode cX3_startAtTool 7 = .ok (.putfield 68, 3) := by decide +kernel
theorem dX3_startAtTool_10 : decode cX3_startAtTool 10 = .ok (.aload_n 0, 1) := by decide +kernel
theorem dX3_startAtTool_11 : decode cX3_startAtTool 11 = .ok (.iload_n 1, 1) := by decide +kernel
theorem dX3_startAtTool_12 : decode cX3_startAtTool 12 = .ok (.putfield 71, 3) := by decide +kernel
theorem dX3_startAtTool_15 : decode cX3_startAtTool 15 = .ok (.aload_n 0, 1) := by decide +kernel
theorem dX3_startAtTool_16 : decode cX3_startAtTool 16 = .ok (.iconst 0, 1) := by decide +kernel
theorem dX3_startAtTool_17 : decode cX3_startAtTool 17 = .ok (.putfield 74, 3) := by decide +kernel
theorem dX3_startAtTool_20 : decode cX3_startAtTool 20 = .ok (.return_, 1) := by decide +kernel
theorem dX3_turnAt_0 : decode cX3_turnAt 0 = .ok (.iload_n 2, 1) := by decide +kernel
theorem dX3_turnAt_1 : decode cX3_turnAt 1 = .ok (.iload_n 1, 1) := by decide +kernel
theorem dX3_turnAt_2 : decode cX3_turnAt 2 = .ok (.ishr, 1) := by decide +kernel
theorem dX3_turnAt_3 : decode cX3_turnAt 3 = .ok (.iconst 1, 1) := by decide +kernel
theorem dX3_turnAt_4 : decode cX3_turnAt 4 = .ok (.iand, 1) := by decide +kernel
theorem dX3_turnAt_5 : decode cX3_turnAt 5 = .ok (.ifCond .ne 4, 3) := by decide +kernel
theorem dX3_turnAt_8 : decode cX3_turnAt 8 = .ok (.return_, 1) := by decide +kernel
theorem dX3_turnAt_9 : decode cX3_turnAt 9 = .ok (.aload_n 0, 1) := by decide +kernel
theorem dX3_turnAt_10 : decode cX3_turnAt 10 = .ok (.getfield 71, 3) := by decide +kernel
theorem dX3_turnAt_13 : decode cX3_turnAt 13 = .ok (.istore 4, 2) := by decide +kernel
theorem dX3_turnAt_15 : decode cX3_turnAt 15 = .ok (.aload_n 0, 1) := by decide +kernel
theorem dX3_turnAt_16 : decode cX3_turnAt 16 = .ok (.iload_n 3, 1) := by decide +kernel
theorem dX3_turnAt_17 : decode cX3_turnAt 17 = .ok (.ifCond .eq 11, 3) := by decide +kernel
theorem dX3_turnAt_20 : decode cX3_turnAt 20 = .ok (.aload_n 0, 1) := by decide +kernel
theorem dX3_turnAt_21 : decode cX3_turnAt 21 = .ok (.getfield 74, 3) := by decide +kernel
theorem dX3_turnAt_24 : decode cX3_turnAt 24 = .ok (.ineg, 1) := by decide +kernel
theorem dX3_turnAt_25 : decode cX3_turnAt 25 = .ok (.goto 7, 3) := by decide +kernel
theorem dX3_turnAt_28 : decode cX3_turnAt 28 = .ok (.aload_n 0, 1) := by decide +kernel
theorem dX3_turnAt_29 : decode cX3_turnAt 29 = .ok (.getfield 74, 3) := by decide +kernel
theorem dX3_turnAt_32 : decode cX3_turnAt 32 = .ok (.putfield 71, 3) := by decide +kernel
theorem dX3_turnAt_35 : decode cX3_turnAt 35 = .ok (.aload_n 0, 1) := by decide +kernel
theorem dX3_turnAt_36 : decode cX3_turnAt 36 = .ok (.iload_n 3, 1) := by decide +kernel
theorem dX3_turnAt_37 : decode cX3_turnAt 37 = .ok (.ifCond .eq 8, 3) := by decide +kernel
theorem dX3_turnAt_40 : decode cX3_turnAt 40 = .ok (.iload 4, 2) := by decide +kernel
theorem dX3_turnAt_42 : decode cX3_turnAt 42 = .ok (.goto 6, 3) := by decide +kernel
theorem dX3_turnAt_45 : decode cX3_turnAt 45 = .ok (.iload 4, 2) := by decide +kernel
theorem dX3_turnAt_47 : decode cX3_turnAt 47 = .ok (.ineg, 1) := by decide +kernel
theorem dX3_turnAt_48 : decode cX3_turnAt 48 = .ok (.putfield 74, 3) := by decide +kernel
theorem dX3_turnAt_51 : decode cX3_turnAt 51 = .ok (.return_, 1) := by decide +kernel
theorem dX3_draw_0 : decode cX3_draw 0 = .ok (.iload_n 1, 1) := by decide +kernel
theorem dX3_draw_1 : decode cX3_draw 1 = .ok (.ifCond .lt 9, 3) := by decide +kernel
theorem dX3_draw_4 : decode cX3_draw 4 = .ok (.iload_n 1, 1) := by decide +kernel
theorem dX3_draw_5 : decode cX3_draw 5 = .ok (.bipush 8, 2) := by decide +kernel
theorem dX3_draw_7 : decode cX3_draw 7 = .ok (.if_icmp .lt 4, 3) := by decide +kernel
theorem dX3_draw_10 : decode cX3_draw 10 = .ok (.return_, 1) := by decide +kernel
theorem dX3_draw_11 : decode cX3_draw 11 = .ok (.aload_n 0, 1) := by decide +kernel
theorem dX3_draw_12 : decode cX3_draw 12 = .ok (.getfield 65, 3) := by decide +kernel
theorem dX3_draw_15 : decode cX3_draw 15 = .ok (.istore_n 3, 1) := by decide +kernel
theorem dX3_draw_16 : decode cX3_draw 16 = .ok (.aload_n 0, 1) := by decide +kernel
theorem dX3_draw_17 : decode cX3_draw 17 = .ok (.getfield 68, 3) := by decide +kernel
theorem dX3_draw_20 : decode cX3_draw 20 = .ok (.istore 4, 2) := by decide +kernel
theorem dX3_draw_22 : decode cX3_draw 22 = .ok (.aload_n 0, 1) := by decide +kernel
theorem dX3_draw_23 : decode cX3_draw 23 = .ok (.dup, 1) := by decide +kernel
theorem dX3_draw_24 : decode cX3_draw 24 = .ok (.getfield 65, 3) := by decide +kernel
theorem dX3_draw_27 : decode cX3_draw 27 = .ok (.aload_n 0, 1) := by decide +kernel
theorem dX3_draw_28 : decode cX3_draw 28 = .ok (.getfield 71, 3) := by decide +kernel
theorem dX3_draw_31 : decode cX3_draw 31 = .ok (.iload_n 2, 1) := by decide +kernel
theorem dX3_draw_32 : decode cX3_draw 32 = .ok (.imul, 1) := by decide +kernel
theorem dX3_draw_33 : decode cX3_draw 33 = .ok (.iadd, 1) := by decide +kernel
theorem dX3_draw_34 : decode cX3_draw 34 = .ok (.putfield 65, 3) := by decide +kernel
theorem dX3_draw_37 : decode cX3_draw 37 = .ok (.aload_n 0, 1) := by decide +kernel
theorem dX3_draw_38 : decode cX3_draw 38 = .ok (.dup, 1) := by decide +kernel
theorem dX3_draw_39 : decode cX3_draw 39 = .ok (.getfield 68, 3) := by decide +kernel
theorem dX3_draw_42 : decode cX3_draw 42 = .ok (.aload_n 0, 1) := by decide +kernel
theorem dX3_draw_43 : decode cX3_draw 43 = .ok (.getfield 74, 3) := by decide +kernel
theorem dX3_draw_46 : decode cX3_draw 46 = .ok (.iload_n 2, 1) := by decide +kernel
theorem dX3_draw_47 : decode cX3_draw 47 = .ok (.imul, 1) := by decide +kernel
theorem dX3_draw_48 : decode cX3_draw 48 = .ok (.iadd, 1) := by decide +kernel
theorem dX3_draw_49 : decode cX3_draw 49 = .ok (.putfield 68, 3) := by decide +kernel
theorem dX3_draw_52 : decode cX3_draw 52 = .ok (.aload_n 0, 1) := by decide +kernel
theorem dX3_draw_53 : decode cX3_draw 53 = .ok (.getfield 9, 3) := by decide +kernel
theorem dX3_draw_56 : decode cX3_draw 56 = .ok (.iload_n 1, 1) := by decide +kernel
theorem dX3_draw_57 : decode cX3_draw 57 = .ok (.aload_n 0, 1) := by decide +kernel
theorem dX3_draw_58 : decode cX3_draw 58 = .ok (.getfield 71, 3) := by decide +kernel
theorem dX3_draw_61 : decode cX3_draw 61 = .ok (.ifCond .ge 10, 3) := by decide +kernel
theorem dX3_draw_64 : decode cX3_draw 64 = .ok (.aload_n 0, 1) := by decide +kernel
theorem dX3_draw_65 : decode cX3_draw 65 = .ok (.getfield 65, 3) := by decide +kernel
theorem dX3_draw_68 : decode cX3_draw 68 = .ok (.goto 4, 3) := by decide +kernel
theorem dX3_draw_71 : decode cX3_draw 71 = .ok (.iload_n 3, 1) := by decide +kernel
theorem dX3_draw_72 : decode cX3_draw 72 = .ok (.iastore, 1) := by decide +kernel
theorem dX3_draw_73 : decode cX3_draw 73 = .ok (.aload_n 0, 1) := by decide +kernel
theorem dX3_draw_74 : decode cX3_draw 74 = .ok (.getfield 15, 3) := by decide +kernel
theorem dX3_draw_77 : decode cX3_draw 77 = .ok (.iload_n 1, 1) := by decide +kernel
theorem dX3_draw_78 : decode cX3_draw 78 = .ok (.aload_n 0, 1) := by decide +kernel
theorem dX3_draw_79 : decode cX3_draw 79 = .ok (.getfield 71, 3) := by decide +kernel
theorem dX3_draw_82 : decode cX3_draw 82 = .ok (.ifCond .ge 7, 3) := by decide +kernel
theorem dX3_draw_85 : decode cX3_draw 85 = .ok (.iload_n 3, 1) := by decide +kernel
theorem dX3_draw_86 : decode cX3_draw 86 = .ok (.goto 7, 3) := by decide +kernel
theorem dX3_draw_89 : decode cX3_draw 89 = .ok (.aload_n 0, 1) := by decide +kernel
theorem dX3_draw_90 : decode cX3_draw 90 = .ok (.getfield 65, 3) := by decide +kernel
theorem dX3_draw_93 : decode cX3_draw 93 = .ok (.iastore, 1) := by decide +kernel
theorem dX3_draw_94 : decode cX3_draw 94 = .ok (.aload_n 0, 1) := by decide +kernel
theorem dX3_draw_95 : decode cX3_draw 95 = .ok (.getfield 18, 3) := by decide +kernel
theorem dX3_draw_98 : decode cX3_draw 98 = .ok (.iload_n 1, 1) := by decide +kernel
theorem dX3_draw_99 : decode cX3_draw 99 = .ok (.aload_n 0, 1) := by decide +kernel
theorem dX3_draw_100 : decode cX3_draw 100 = .ok (.getfield 74, 3) := by decide +kernel
theorem dX3_draw_103 : decode cX3_draw 103 = .ok (.ifCond .ge 10, 3) := by decide +kernel
theorem dX3_draw_106 : decode cX3_draw 106 = .ok (.aload_n 0, 1) := by decide +kernel
theorem dX3_draw_107 : decode cX3_draw 107 = .ok (.getfield 68, 3) := by decide +kernel
theorem dX3_draw_110 : decode cX3_draw 110 = .ok (.goto 5, 3) := by decide +kernel
theorem dX3_draw_113 : decode cX3_draw 113 = .ok (.iload 4, 2) := by decide +kernel
theorem dX3_draw_115 : decode cX3_draw 115 = .ok (.iastore, 1) := by decide +kernel
theorem dX3_draw_116 : decode cX3_draw 116 = .ok (.aload_n 0, 1) := by decide +kernel
theorem dX3_draw_117 : decode cX3_draw 117 = .ok (.getfield 21, 3) := by decide +kernel
theorem dX3_draw_120 : decode cX3_draw 120 = .ok (.iload_n 1, 1) := by decide +kernel
theorem dX3_draw_121 : decode cX3_draw 121 = .ok (.aload_n 0, 1) := by decide +kernel
theorem dX3_draw_122 : decode cX3_draw 122 = .ok (.getfield 74, 3) := by decide +kernel
theorem dX3_draw_125 : decode cX3_draw 125 = .ok (.ifCond .ge 8, 3) := by decide +kernel
theorem dX3_draw_128 : decode cX3_draw 128 = .ok (.iload 4, 2) := by decide +kernel
theorem dX3_draw_130 : decode cX3_draw 130 = .ok (.goto 7, 3) := by decide +kernel
theorem dX3_draw_133 : decode cX3_draw 133 = .ok (.aload_n 0, 1) := by decide +kernel
theorem dX3_draw_134 : decode cX3_draw 134 = .ok (.getfield 68, 3) := by decide +kernel
theorem dX3_draw_137 : decode cX3_draw 137 = .ok (.iastore, 1) := by decide +kernel
theorem dX3_draw_138 : decode cX3_draw 138 = .ok (.aload_n 0, 1) := by decide +kernel
theorem dX3_draw_139 : decode cX3_draw 139 = .ok (.getfield 24, 3) := by decide +kernel
theorem dX3_draw_142 : decode cX3_draw 142 = .ok (.iload_n 1, 1) := by decide +kernel
theorem dX3_draw_143 : decode cX3_draw 143 = .ok (.aload_n 0, 1) := by decide +kernel
theorem dX3_draw_144 : decode cX3_draw 144 = .ok (.getfield 65, 3) := by decide +kernel
theorem dX3_draw_147 : decode cX3_draw 147 = .ok (.iastore, 1) := by decide +kernel
theorem dX3_draw_148 : decode cX3_draw 148 = .ok (.aload_n 0, 1) := by decide +kernel
theorem dX3_draw_149 : decode cX3_draw 149 = .ok (.getfield 27, 3) := by decide +kernel
theorem dX3_draw_152 : decode cX3_draw 152 = .ok (.iload_n 1, 1) := by decide +kernel
theorem dX3_draw_153 : decode cX3_draw 153 = .ok (.aload_n 0, 1) := by decide +kernel
theorem dX3_draw_154 : decode cX3_draw 154 = .ok (.getfield 68, 3) := by decide +kernel
theorem dX3_draw_157 : decode cX3_draw 157 = .ok (.iastore, 1) := by decide +kernel
theorem dX3_draw_158 : decode cX3_draw 158 = .ok (.return_, 1) := by decide +kernel
theorem dX3_swingUp_0 : decode cX3_swingUp 0 = .ok (.iconst 0, 1) := by decide +kernel
theorem dX3_swingUp_1 : decode cX3_swingUp 1 = .ok (.istore_n 2, 1) := by decide +kernel
theorem dX3_swingUp_2 : decode cX3_swingUp 2 = .ok (.iload_n 2, 1) := by decide +kernel
theorem dX3_swingUp_3 : decode cX3_swingUp 3 = .ok (.iload_n 1, 1) := by decide +kernel
theorem dX3_swingUp_4 : decode cX3_swingUp 4 = .ok (.if_icmp .gt 71, 3) := by decide +kernel
theorem dX3_swingUp_7 : decode cX3_swingUp 7 = .ok (.iload_n 2, 1) := by decide +kernel
theorem dX3_swingUp_8 : decode cX3_swingUp 8 = .ok (.bipush 8, 2) := by decide +kernel
theorem dX3_swingUp_10 : decode cX3_swingUp 10 = .ok (.if_icmp .ge 65, 3) := by decide +kernel
theorem dX3_swingUp_13 : decode cX3_swingUp 13 = .ok (.aload_n 0, 1) := by decide +kernel
theorem dX3_swingUp_14 : decode cX3_swingUp 14 = .ok (.getfield 9, 3) := by decide +kernel
theorem dX3_swingUp_17 : decode cX3_swingUp 17 = .ok (.iload_n 2, 1) := by decide +kernel
theorem dX3_swingUp_18 : decode cX3_swingUp 18 = .ok (.iaload, 1) := by decide +kernel
theorem dX3_swingUp_19 : decode cX3_swingUp 19 = .ok (.istore_n 3, 1) := by decide +kernel
theorem dX3_swingUp_20 : decode cX3_swingUp 20 = .ok (.aload_n 0, 1) := by decide +kernel
theorem dX3_swingUp_21 : decode cX3_swingUp 21 = .ok (.getfield 15, 3) := by decide +kernel
theorem dX3_swingUp_24 : decode cX3_swingUp 24 = .ok (.iload_n 2, 1) := by decide +kernel
theorem dX3_swingUp_25 : decode cX3_swingUp 25 = .ok (.iaload, 1) := by decide +kernel
theorem dX3_swingUp_26 : decode cX3_swingUp 26 = .ok (.istore 4, 2) := by decide +kernel
theorem dX3_swingUp_28 : decode cX3_swingUp 28 = .ok (.aload_n 0, 1) := by decide +kernel
theorem dX3_swingUp_29 : decode cX3_swingUp 29 = .ok (.getfield 9, 3) := by decide +kernel
theorem dX3_swingUp_32 : decode cX3_swingUp 32 = .ok (.iload_n 2, 1) := by decide +kernel
theorem dX3_swingUp_33 : decode cX3_swingUp 33 = .ok (.aload_n 0, 1) := by decide +kernel
theorem dX3_swingUp_34 : decode cX3_swingUp 34 = .ok (.getfield 18, 3) := by decide +kernel
theorem dX3_swingUp_37 : decode cX3_swingUp 37 = .ok (.iload_n 2, 1) := by decide +kernel
theorem dX3_swingUp_38 : decode cX3_swingUp 38 = .ok (.iaload, 1) := by decide +kernel
theorem dX3_swingUp_39 : decode cX3_swingUp 39 = .ok (.iastore, 1) := by decide +kernel
theorem dX3_swingUp_40 : decode cX3_swingUp 40 = .ok (.aload_n 0, 1) := by decide +kernel
theorem dX3_swingUp_41 : decode cX3_swingUp 41 = .ok (.getfield 15, 3) := by decide +kernel
theorem dX3_swingUp_44 : decode cX3_swingUp 44 = .ok (.iload_n 2, 1) := by decide +kernel
theorem dX3_swingUp_45 : decode cX3_swingUp 45 = .ok (.aload_n 0, 1) := by decide +kernel
theorem dX3_swingUp_46 : decode cX3_swingUp 46 = .ok (.getfield 21, 3) := by decide +kernel
theorem dX3_swingUp_49 : decode cX3_swingUp 49 = .ok (.iload_n 2, 1) := by decide +kernel
theorem dX3_swingUp_50 : decode cX3_swingUp 50 = .ok (.iaload, 1) := by decide +kernel
theorem dX3_swingUp_51 : decode cX3_swingUp 51 = .ok (.iastore, 1) := by decide +kernel
theorem dX3_swingUp_52 : decode cX3_swingUp 52 = .ok (.aload_n 0, 1) := by decide +kernel
theorem dX3_swingUp_53 : decode cX3_swingUp 53 = .ok (.getfield 18, 3) := by decide +kernel
theorem dX3_swingUp_56 : decode cX3_swingUp 56 = .ok (.iload_n 2, 1) := by decide +kernel
theorem dX3_swingUp_57 : decode cX3_swingUp 57 = .ok (.iload 4, 2) := by decide +kernel
theorem dX3_swingUp_59 : decode cX3_swingUp 59 = .ok (.ineg, 1) := by decide +kernel
theorem dX3_swingUp_60 : decode cX3_swingUp 60 = .ok (.iastore, 1) := by decide +kernel
theorem dX3_swingUp_61 : decode cX3_swingUp 61 = .ok (.aload_n 0, 1) := by decide +kernel
theorem dX3_swingUp_62 : decode cX3_swingUp 62 = .ok (.getfield 21, 3) := by decide +kernel
theorem dX3_swingUp_65 : decode cX3_swingUp 65 = .ok (.iload_n 2, 1) := by decide +kernel
theorem dX3_swingUp_66 : decode cX3_swingUp 66 = .ok (.iload_n 3, 1) := by decide +kernel
theorem dX3_swingUp_67 : decode cX3_swingUp 67 = .ok (.ineg, 1) := by decide +kernel
theorem dX3_swingUp_68 : decode cX3_swingUp 68 = .ok (.iastore, 1) := by decide +kernel
theorem dX3_swingUp_69 : decode cX3_swingUp 69 = .ok (.iinc 2 1, 3) := by decide +kernel
theorem dX3_swingUp_72 : decode cX3_swingUp 72 = .ok (.goto (-70), 3) := by decide +kernel
theorem dX3_swingUp_75 : decode cX3_swingUp 75 = .ok (.return_, 1) := by decide +kernel
theorem dX3_farEndX_0 : decode cX3_farEndX 0 = .ok (.iload_n 1, 1) := by decide +kernel
theorem dX3_farEndX_1 : decode cX3_farEndX 1 = .ok (.ifCond .lt 18, 3) := by decide +kernel
theorem dX3_farEndX_4 : decode cX3_farEndX 4 = .ok (.iload_n 1, 1) := by decide +kernel
theorem dX3_farEndX_5 : decode cX3_farEndX 5 = .ok (.bipush 8, 2) := by decide +kernel
theorem dX3_farEndX_7 : decode cX3_farEndX 7 = .ok (.if_icmp .ge 12, 3) := by decide +kernel
theorem dX3_farEndX_10 : decode cX3_farEndX 10 = .ok (.aload_n 0, 1) := by decide +kernel
theorem dX3_farEndX_11 : decode cX3_farEndX 11 = .ok (.getfield 24, 3) := by decide +kernel
theorem dX3_farEndX_14 : decode cX3_farEndX 14 = .ok (.iload_n 1, 1) := by decide +kernel
theorem dX3_farEndX_15 : decode cX3_farEndX 15 = .ok (.iaload, 1) := by decide +kernel
theorem dX3_farEndX_16 : decode cX3_farEndX 16 = .ok (.goto 4, 3) := by decide +kernel
theorem dX3_farEndX_19 : decode cX3_farEndX 19 = .ok (.iconst 0, 1) := by decide +kernel
theorem dX3_farEndX_20 : decode cX3_farEndX 20 = .ok (.ireturn, 1) := by decide +kernel
theorem dX3_farEndY_0 : decode cX3_farEndY 0 = .ok (.iload_n 1, 1) := by decide +kernel
theorem dX3_farEndY_1 : decode cX3_farEndY 1 = .ok (.ifCond .lt 18, 3) := by decide +kernel
theorem dX3_farEndY_4 : decode cX3_farEndY 4 = .ok (.iload_n 1, 1) := by decide +kernel
theorem dX3_farEndY_5 : decode cX3_farEndY 5 = .ok (.bipush 8, 2) := by decide +kernel
theorem dX3_farEndY_7 : decode cX3_farEndY 7 = .ok (.if_icmp .ge 12, 3) := by decide +kernel
theorem dX3_farEndY_10 : decode cX3_farEndY 10 = .ok (.aload_n 0, 1) := by decide +kernel
theorem dX3_farEndY_11 : decode cX3_farEndY 11 = .ok (.getfield 27, 3) := by decide +kernel
theorem dX3_farEndY_14 : decode cX3_farEndY 14 = .ok (.iload_n 1, 1) := by decide +kernel
theorem dX3_farEndY_15 : decode cX3_farEndY 15 = .ok (.iaload, 1) := by decide +kernel
theorem dX3_farEndY_16 : decode cX3_farEndY 16 = .ok (.goto 4, 3) := by decide +kernel
theorem dX3_farEndY_19 : decode cX3_farEndY 19 = .ok (.iconst 0, 1) := by decide +kernel
theorem dX3_farEndY_20 : decode cX3_farEndY 20 = .ok (.ireturn, 1) := by decide +kernel
theorem dX3_flangesIn_0 : decode cX3_flangesIn 0 = .ok (.iconst 0, 1) := by decide +kernel
theorem dX3_flangesIn_1 : decode cX3_flangesIn 1 = .ok (.istore 5, 2) := by decide +kernel
theorem dX3_flangesIn_3 : decode cX3_flangesIn 3 = .ok (.iconst 0, 1) := by decide +kernel
theorem dX3_flangesIn_4 : decode cX3_flangesIn 4 = .ok (.istore 6, 2) := by decide +kernel
theorem dX3_flangesIn_6 : decode cX3_flangesIn 6 = .ok (.iload 6, 2) := by decide +kernel
theorem dX3_flangesIn_8 : decode cX3_flangesIn 8 = .ok (.aload_n 0, 1) := by decide +kernel
theorem dX3_flangesIn_9 : decode cX3_flangesIn 9 = .ok (.getfield 42, 3) := by decide +kernel
theorem dX3_flangesIn_12 : decode cX3_flangesIn 12 = .ok (.if_icmp .ge 112, 3) := by decide +kernel
theorem dX3_flangesIn_15 : decode cX3_flangesIn 15 = .ok (.iload 6, 2) := by decide +kernel
theorem dX3_flangesIn_17 : decode cX3_flangesIn 17 = .ok (.bipush 8, 2) := by decide +kernel
theorem dX3_flangesIn_19 : decode cX3_flangesIn 19 = .ok (.if_icmp .ge 105, 3) := by decide +kernel
theorem dX3_flangesIn_22 : decode cX3_flangesIn 22 = .ok (.aload_n 0, 1) := by decide +kernel
theorem dX3_flangesIn_23 : decode cX3_flangesIn 23 = .ok (.getfield 15, 3) := by decide +kernel
theorem dX3_flangesIn_26 : decode cX3_flangesIn 26 = .ok (.iload 6, 2) := by decide +kernel
theorem dX3_flangesIn_28 : decode cX3_flangesIn 28 = .ok (.iaload, 1) := by decide +kernel
theorem dX3_flangesIn_29 : decode cX3_flangesIn 29 = .ok (.iload_n 1, 1) := by decide +kernel
theorem dX3_flangesIn_30 : decode cX3_flangesIn 30 = .ok (.if_icmp .lt 14, 3) := by decide +kernel
theorem dX3_flangesIn_33 : decode cX3_flangesIn 33 = .ok (.aload_n 0, 1) := by decide +kernel
theorem dX3_flangesIn_34 : decode cX3_flangesIn 34 = .ok (.getfield 9, 3) := by decide +kernel
theorem dX3_flangesIn_37 : decode cX3_flangesIn 37 = .ok (.iload 6, 2) := by decide +kernel
theorem dX3_flangesIn_39 : decode cX3_flangesIn 39 = .ok (.iaload, 1) := by decide +kernel
theorem dX3_flangesIn_40 : decode cX3_flangesIn 40 = .ok (.iload_n 2, 1) := by decide +kernel
theorem dX3_flangesIn_41 : decode cX3_flangesIn 41 = .ok (.if_icmp .le 7, 3) := by decide +kernel
theorem dX3_flangesIn_44 : decode cX3_flangesIn 44 = .ok (.iconst 1, 1) := by decide +kernel
theorem dX3_flangesIn_45 : decode cX3_flangesIn 45 = .ok (.goto 4, 3) := by decide +kernel
theorem dX3_flangesIn_48 : decode cX3_flangesIn 48 = .ok (.iconst 0, 1) := by decide +kernel
theorem dX3_flangesIn_49 : decode cX3_flangesIn 49 = .ok (.istore 7, 2) := by decide +kernel
theorem dX3_flangesIn_51 : decode cX3_flangesIn 51 = .ok (.aload_n 0, 1) := by decide +kernel
theorem dX3_flangesIn_52 : decode cX3_flangesIn 52 = .ok (.getfield 18, 3) := by decide +kernel
theorem dX3_flangesIn_55 : decode cX3_flangesIn 55 = .ok (.iload 6, 2) := by decide +kernel
theorem dX3_flangesIn_57 : decode cX3_flangesIn 57 = .ok (.iaload, 1) := by decide +kernel
theorem dX3_flangesIn_58 : decode cX3_flangesIn 58 = .ok (.iload 4, 2) := by decide +kernel
theorem dX3_flangesIn_60 : decode cX3_flangesIn 60 = .ok (.if_icmp .le 7, 3) := by decide +kernel
theorem dX3_flangesIn_63 : decode cX3_flangesIn 63 = .ok (.iconst 1, 1) := by decide +kernel
theorem dX3_flangesIn_64 : decode cX3_flangesIn 64 = .ok (.goto 4, 3) := by decide +kernel
theorem dX3_flangesIn_67 : decode cX3_flangesIn 67 = .ok (.iconst 0, 1) := by decide +kernel
theorem dX3_flangesIn_68 : decode cX3_flangesIn 68 = .ok (.istore 8, 2) := by decide +kernel
theorem dX3_flangesIn_70 : decode cX3_flangesIn 70 = .ok (.aload_n 0, 1) := by decide +kernel
theorem dX3_flangesIn_71 : decode cX3_flangesIn 71 = .ok (.getfield 21, 3) := by decide +kernel
theorem dX3_flangesIn_74 : decode cX3_flangesIn 74 = .ok (.iload 6, 2) := by decide +kernel
theorem dX3_flangesIn_76 : decode cX3_flangesIn 76 = .ok (.iaload, 1) := by decide +kernel
theorem dX3_flangesIn_77 : decode cX3_flangesIn 77 = .ok (.iload_n 3, 1) := by decide +kernel
theorem dX3_flangesIn_78 : decode cX3_flangesIn 78 = .ok (.if_icmp .ge 7, 3) := by decide +kernel
theorem dX3_flangesIn_81 : decode cX3_flangesIn 81 = .ok (.iconst 1, 1) := by decide +kernel
theorem dX3_flangesIn_82 : decode cX3_flangesIn 82 = .ok (.goto 4, 3) := by decide +kernel
theorem dX3_flangesIn_85 : decode cX3_flangesIn 85 = .ok (.iconst 0, 1) := by decide +kernel
theorem dX3_flangesIn_86 : decode cX3_flangesIn 86 = .ok (.istore 9, 2) := by decide +kernel
theorem dX3_flangesIn_88 : decode cX3_flangesIn 88 = .ok (.iload 7, 2) := by decide +kernel
theorem dX3_flangesIn_90 : decode cX3_flangesIn 90 = .ok (.ifCond .ne 28, 3) := by decide +kernel
theorem dX3_flangesIn_93 : decode cX3_flangesIn 93 = .ok (.iload 8, 2) := by decide +kernel
theorem dX3_flangesIn_95 : decode cX3_flangesIn 95 = .ok (.ifCond .ne 23, 3) := by decide +kernel
theorem dX3_flangesIn_98 : decode cX3_flangesIn 98 = .ok (.iload 9, 2) := by decide +kernel
theorem dX3_flangesIn_100 : decode cX3_flangesIn 100 = .ok (.ifCond .ne 18, 3) := by decide +kernel
theorem dX3_flangesIn_103 : decode cX3_flangesIn 103 = .ok (.iload_n 3, 1) := by decide +kernel
theorem dX3_flangesIn_104 : decode cX3_flangesIn 104 = .ok (.iload 4, 2) := by decide +kernel
theorem dX3_flangesIn_106 : decode cX3_flangesIn 106 = .ok (.if_icmp .gt 12, 3) := by decide +kernel
theorem dX3_flangesIn_109 : decode cX3_flangesIn 109 = .ok (.iload 5, 2) := by decide +kernel
theorem dX3_flangesIn_111 : decode cX3_flangesIn 111 = .ok (.iconst 1, 1) := by decide +kernel
theorem dX3_flangesIn_112 : decode cX3_flangesIn 112 = .ok (.iload 6, 2) := by decide +kernel
theorem dX3_flangesIn_114 : decode cX3_flangesIn 114 = .ok (.ishl, 1) := by decide +kernel
theorem dX3_flangesIn_115 : decode cX3_flangesIn 115 = .ok (.ior, 1) := by decide +kernel
theorem dX3_flangesIn_116 : decode cX3_flangesIn 116 = .ok (.istore 5, 2) := by decide +kernel
theorem dX3_flangesIn_118 : decode cX3_flangesIn 118 = .ok (.iinc 6 1, 3) := by decide +kernel
theorem dX3_flangesIn_121 : decode cX3_flangesIn 121 = .ok (.goto (-115), 3) := by decide +kernel
theorem dX3_flangesIn_124 : decode cX3_flangesIn 124 = .ok (.iload 5, 2) := by decide +kernel
theorem dX3_flangesIn_126 : decode cX3_flangesIn 126 = .ok (.ireturn, 1) := by decide +kernel
set_option maxRecDepth 20000 in
theorem ggX3_strikesItself_X3_flangesIn : GoodIn wsX3_strikesItself wsX3_flangesIn := goodIn_r _ [10, 1, 3, 2, 4, 5, 11, 12, 13, 14, 15, 16, 17, 18, 19, 20, 21] (by decide +kernel) (by decide +kernel)
set_option maxRecDepth 20000 in
theorem gX3_strikesItself_X3_flangesIn : GoodIn wsX3_strikesItself (wsV RX3 77 RX3 yX3_flangesIn wsX3_flangesIn) := goodIn_app (goodIn_of _ (by decide +kernel)) ggX3_strikesItself_X3_flangesIn
theorem dX3_strikesItself_0 : decode cX3_strikesItself 0 = .ok (.iconst 0, 1) := by decide +kernel
theorem dX3_strikesItself_1 : decode cX3_strikesItself 1 = .ok (.istore_n 1, 1) := by decide +kernel
theorem dX3_strikesItself_2 : decode cX3_strikesItself 2 = .ok (.iload_n 1, 1) := by decide +kernel
theorem dX3_strikesItself_3 : decode cX3_strikesItself 3 = .ok (.aload_n 0, 1) := by decide +kernel
theorem dX3_strikesItself_4 : decode cX3_strikesItself 4 = .ok (.getfield 42, 3) := by decide +kernel
theorem dX3_strikesItself_7 : decode cX3_strikesItself 7 = .ok (.if_icmp .ge 54, 3) := by decide +kernel
theorem dX3_strikesItself_10 : decode cX3_strikesItself 10 = .ok (.iload_n 1, 1) := by decide +kernel
theorem dX3_strikesItself_11 : decode cX3_strikesItself 11 = .ok (.bipush 8, 2) := by decide +kernel
theorem dX3_strikesItself_13 : decode cX3_strikesItself 13 = .ok (.if_icmp .ge 48, 3) := by decide +kernel
theorem dX3_strikesItself_16 : decode cX3_strikesItself 16 = .ok (.aload_n 0, 1) := by decide +kernel
theorem dX3_strikesItself_17 : decode cX3_strikesItself 17 = .ok (.aload_n 0, 1) := by decide +kernel
theorem dX3_strikesItself_18 : decode cX3_strikesItself 18 = .ok (.getfield 9, 3) := by decide +kernel
theorem dX3_strikesItself_21 : decode cX3_strikesItself 21 = .ok (.iload_n 1, 1) := by decide +kernel
theorem dX3_strikesItself_22 : decode cX3_strikesItself 22 = .ok (.iaload, 1) := by decide +kernel
theorem dX3_strikesItself_23 : decode cX3_strikesItself 23 = .ok (.aload_n 0, 1) := by decide +kernel
theorem dX3_strikesItself_24 : decode cX3_strikesItself 24 = .ok (.getfield 15, 3) := by decide +kernel
theorem dX3_strikesItself_27 : decode cX3_strikesItself 27 = .ok (.iload_n 1, 1) := by decide +kernel
theorem dX3_strikesItself_28 : decode cX3_strikesItself 28 = .ok (.iaload, 1) := by decide +kernel
theorem dX3_strikesItself_29 : decode cX3_strikesItself 29 = .ok (.aload_n 0, 1) := by decide +kernel
theorem dX3_strikesItself_30 : decode cX3_strikesItself 30 = .ok (.getfield 18, 3) := by decide +kernel
theorem dX3_strikesItself_33 : decode cX3_strikesItself 33 = .ok (.iload_n 1, 1) := by decide +kernel
theorem dX3_strikesItself_34 : decode cX3_strikesItself 34 = .ok (.iaload, 1) := by decide +kernel
theorem dX3_strikesItself_35 : decode cX3_strikesItself 35 = .ok (.aload_n 0, 1) := by decide +kernel
theorem dX3_strikesItself_36 : decode cX3_strikesItself 36 = .ok (.getfield 21, 3) := by decide +kernel
theorem dX3_strikesItself_39 : decode cX3_strikesItself 39 = .ok (.iload_n 1, 1) := by decide +kernel
theorem dX3_strikesItself_40 : decode cX3_strikesItself 40 = .ok (.iaload, 1) := by decide +kernel
theorem dX3_strikesItself_41 : decode cX3_strikesItself 41 = .ok (.invokevirtual 77, 3) := by decide +kernel
theorem dX3_strikesItself_44 : decode cX3_strikesItself 44 = .ok (.istore_n 2, 1) := by decide +kernel
theorem dX3_strikesItself_45 : decode cX3_strikesItself 45 = .ok (.iload_n 2, 1) := by decide +kernel
theorem dX3_strikesItself_46 : decode cX3_strikesItself 46 = .ok (.iload_n 1, 1) := by decide +kernel
theorem dX3_strikesItself_47 : decode cX3_strikesItself 47 = .ok (.iconst 2, 1) := by decide +kernel
theorem dX3_strikesItself_48 : decode cX3_strikesItself 48 = .ok (.iadd, 1) := by decide +kernel
theorem dX3_strikesItself_49 : decode cX3_strikesItself 49 = .ok (.ishr, 1) := by decide +kernel
theorem dX3_strikesItself_50 : decode cX3_strikesItself 50 = .ok (.ifCond .eq 5, 3) := by decide +kernel
theorem dX3_strikesItself_53 : decode cX3_strikesItself 53 = .ok (.iconst 1, 1) := by decide +kernel
theorem dX3_strikesItself_54 : decode cX3_strikesItself 54 = .ok (.ireturn, 1) := by decide +kernel
theorem dX3_strikesItself_55 : decode cX3_strikesItself 55 = .ok (.iinc 1 1, 3) := by decide +kernel
theorem dX3_strikesItself_58 : decode cX3_strikesItself 58 = .ok (.goto (-56), 3) := by decide +kernel
theorem dX3_strikesItself_61 : decode cX3_strikesItself 61 = .ok (.iconst 0, 1) := by decide +kernel
theorem dX3_strikesItself_62 : decode cX3_strikesItself 62 = .ok (.ireturn, 1) := by decide +kernel
theorem dX4_init_0 : decode cX4_init 0 = .ok (.aload_n 0, 1) := by decide +kernel
theorem dX4_init_1 : decode cX4_init 1 = .ok (.invokespecial 3, 3) := by decide +kernel
theorem dX4_init_4 : decode cX4_init 4 = .ok (.aload_n 0, 1) := by decide +kernel
theorem dX4_init_5 : decode cX4_init 5 = .ok (.iconst 1, 1) := by decide +kernel
theorem dX4_init_6 : decode cX4_init 6 = .ok (.putfield 9, 3) := by decide +kernel
theorem dX4_init_9 : decode cX4_init 9 = .ok (.aload_n 0, 1) := by decide +kernel
theorem dX4_init_10 : decode cX4_init 10 = .ok (.iconst 1, 1) := by decide +kernel
theorem dX4_init_11 : decode cX4_init 11 = .ok (.putfield 15, 3) := by decide +kernel
theorem dX4_init_14 : decode cX4_init 14 = .ok (.aload_n 0, 1) := by decide +kernel
theorem dX4_init_15 : decode cX4_init 15 = .ok (.iconst 0, 1) := by decide +kernel
theorem dX4_init_16 : decode cX4_init 16 = .ok (.putfield 18, 3) := by decide +kernel
theorem dX4_init_19 : decode cX4_init 19 = .ok (.aload_n 0, 1) := by decide +kernel
theorem dX4_init_20 : decode cX4_init 20 = .ok (.iconst 0, 1) := by decide +kernel
theorem dX4_init_21 : decode cX4_init 21 = .ok (.putfield 21, 3) := by decide +kernel
theorem dX4_init_24 : decode cX4_init 24 = .ok (.aload_n 0, 1) := by decide +kernel
theorem dX4_init_25 : decode cX4_init 25 = .ok (.iconst 0, 1) := by decide +kernel
theorem dX4_init_26 : decode cX4_init 26 = .ok (.putfield 25, 3) := by decide +kernel
theorem dX4_init_29 : decode cX4_init 29 = .ok (.aload_n 0, 1) := by decide +kernel
theorem dX4_init_30 : decode cX4_init 30 = .ok (.bipush 8, 2) := by decide +kernel
theorem dX4_init_32 : decode cX4_init 32 = .ok (.newarray .int, 2) := by decide +kernel
theorem dX4_init_34 : decode cX4_init 34 = .ok (.dup, 1) := by decide +kernel
theorem dX4_init_35 : decode cX4_init 35 = .ok (.iconst 0, 1) := by decide +kernel
theorem dX4_init_36 : decode cX4_init 36 = .ok (.iconst 5, 1) := by decide +kernel
theorem dX4_init_37 : decode cX4_init 37 = .ok (.iastore, 1) := by decide +kernel
theorem dX4_init_38 : decode cX4_init 38 = .ok (.dup, 1) := by decide +kernel
theorem dX4_init_39 : decode cX4_init 39 = .ok (.iconst 1, 1) := by decide +kernel
theorem dX4_init_40 : decode cX4_init 40 = .ok (.iconst 5, 1) := by decide +kernel
theorem dX4_init_41 : decode cX4_init 41 = .ok (.iastore, 1) := by decide +kernel
theorem dX4_init_42 : decode cX4_init 42 = .ok (.dup, 1) := by decide +kernel
theorem dX4_init_43 : decode cX4_init 43 = .ok (.iconst 2, 1) := by decide +kernel
theorem dX4_init_44 : decode cX4_init 44 = .ok (.iconst 0, 1) := by decide +kernel
theorem dX4_init_45 : decode cX4_init 45 = .ok (.iastore, 1) := by decide +kernel
theorem dX4_init_46 : decode cX4_init 46 = .ok (.dup, 1) := by decide +kernel
theorem dX4_init_47 : decode cX4_init 47 = .ok (.iconst 3, 1) := by decide +kernel
theorem dX4_init_48 : decode cX4_init 48 = .ok (.iconst 0, 1) := by decide +kernel
theorem dX4_init_49 : decode cX4_init 49 = .ok (.iastore, 1) := by decide +kernel
theorem dX4_init_50 : decode cX4_init 50 = .ok (.dup, 1) := by decide +kernel
theorem dX4_init_51 : decode cX4_init 51 = .ok (.iconst 4, 1) := by decide +kernel
theorem dX4_init_52 : decode cX4_init 52 = .ok (.iconst 0, 1) := by decide +kernel
theorem dX4_init_53 : decode cX4_init 53 = .ok (.iastore, 1) := by decide +kernel
theorem dX4_init_54 : decode cX4_init 54 = .ok (.dup, 1) := by decide +kernel
theorem dX4_init_55 : decode cX4_init 55 = .ok (.iconst 5, 1) := by decide +kernel
theorem dX4_init_56 : decode cX4_init 56 = .ok (.iconst 0, 1) := by decide +kernel
theorem dX4_init_57 : decode cX4_init 57 = .ok (.iastore, 1) := by decide +kernel
theorem dX4_init_58 : decode cX4_init 58 = .ok (.dup, 1) := by decide +kernel
theorem dX4_init_59 : decode cX4_init 59 = .ok (.bipush 6, 2) := by decide +kernel
theorem dX4_init_61 : decode cX4_init 61 = .ok (.iconst 0, 1) := by decide +kernel
theorem dX4_init_62 : decode cX4_init 62 = .ok (.iastore, 1) := by decide +kernel
theorem dX4_init_63 : decode cX4_init 63 = .ok (.dup, 1) := by decide +kernel
theorem dX4_init_64 : decode cX4_init 64 = .ok (.bipush 7, 2) := by decide +kernel
theorem dX4_init_66 : decode cX4_init 66 = .ok (.iconst 0, 1) := by decide +kernel
theorem dX4_init_67 : decode cX4_init 67 = .ok (.iastore, 1) := by decide +kernel
theorem dX4_init_68 : decode cX4_init 68 = .ok (.putfield 28, 3) := by decide +kernel
theorem dX4_init_71 : decode cX4_init 71 = .ok (.aload_n 0, 1) := by decide +kernel
theorem dX4_init_72 : decode cX4_init 72 = .ok (.getstatic 32, 3) := by decide +kernel
theorem dX4_init_75 : decode cX4_init 75 = .ok (.arraylength, 1) := by decide +kernel
theorem dX4_init_76 : decode cX4_init 76 = .ok (.newarray .int, 2) := by decide +kernel
theorem dX4_init_78 : decode cX4_init 78 = .ok (.putfield 35, 3) := by decide +kernel
theorem dX4_init_81 : decode cX4_init 81 = .ok (.getstatic 32, 3) := by decide +kernel
theorem dX4_init_84 : decode cX4_init 84 = .ok (.iconst 0, 1) := by decide +kernel
theorem dX4_init_85 : decode cX4_init 85 = .ok (.aload_n 0, 1) := by decide +kernel
theorem dX4_init_86 : decode cX4_init 86 = .ok (.getfield 35, 3) := by decide +kernel
theorem dX4_init_89 : decode cX4_init 89 = .ok (.iconst 0, 1) := by decide +kernel
theorem dX4_init_90 : decode cX4_init 90 = .ok (.aload_n 0, 1) := by decide +kernel
theorem dX4_init_91 : decode cX4_init 91 = .ok (.getfield 35, 3) := by decide +kernel
theorem dX4_init_94 : decode cX4_init 94 = .ok (.arraylength, 1) := by decide +kernel
theorem dX4_init_95 : decode cX4_init 95 = .ok (.invokestatic 38, 3) := by decide +kernel
theorem dX4_init_98 : decode cX4_init 98 = .ok (.return_, 1) := by decide +kernel
theorem dX4_copyFrom_0 : decode cX4_copyFrom 0 = .ok (.aload_n 0, 1) := by decide +kernel
theorem dX4_copyFrom_1 : decode cX4_copyFrom 1 = .ok (.aload_n 1, 1) := by decide +kernel
theorem dX4_copyFrom_2 : decode cX4_copyFrom 2 = .ok (.getfield 9, 3) := by decide +kernel
theorem dX4_copyFrom_5 : decode cX4_copyFrom 5 = .ok (.putfield 9, 3) := by decide +kernel
theorem dX4_copyFrom_8 : decode cX4_copyFrom 8 = .ok (.aload_n 0, 1) := by decide +kernel
theorem dX4_copyFrom_9 : decode cX4_copyFrom 9 = .ok (.aload_n 1, 1) := by decide +kernel
theorem dX4_copyFrom_10 : decode cX4_copyFrom 10 = .ok (.getfield 15, 3) := by decide +kernel
theorem dX4_copyFrom_13 : decode cX4_copyFrom 13 = .ok (.putfield 15, 3) := by decide +kernel
theorem dX4_copyFrom_16 : decode cX4_copyFrom 16 = .ok (.aload_n 0, 1) := by decide +kernel
theorem dX4_copyFrom_17 : decode cX4_copyFrom 17 = .ok (.aload_n 1, 1) := by decide +kernel
theorem dX4_copyFrom_18 : decode cX4_copyFrom 18 = .ok (.getfield 18, 3) := by decide +kernel
theorem dX4_copyFrom_21 : decode cX4_copyFrom 21 = .ok (.putfield 18, 3) := by decide +kernel
theorem dX4_copyFrom_24 : decode cX4_copyFrom 24 = .ok (.aload_n 0, 1) := by decide +kernel
theorem dX4_copyFrom_25 : decode cX4_copyFrom 25 = .ok (.aload_n 1, 1) := by decide +kernel
theorem dX4_copyFrom_26 : decode cX4_copyFrom 26 = .ok (.getfield 21, 3) := by decide +kernel
theorem dX4_copyFrom_29 : decode cX4_copyFrom 29 = .ok (.putfield 21, 3) := by decide +kernel
theorem dX4_copyFrom_32 : decode cX4_copyFrom 32 = .ok (.aload_n 0, 1) := by decide +kernel
theorem dX4_copyFrom_33 : decode cX4_copyFrom 33 = .ok (.aload_n 1, 1) := by decide +kernel
theorem dX4_copyFrom_34 : decode cX4_copyFrom 34 = .ok (.getfield 25, 3) := by decide +kernel
theorem dX4_copyFrom_37 : decode cX4_copyFrom 37 = .ok (.putfield 25, 3) := by decide +kernel
theorem dX4_copyFrom_40 : decode cX4_copyFrom 40 = .ok (.aload_n 1, 1) := by decide +kernel
theorem dX4_copyFrom_41 : decode cX4_copyFrom 41 = .ok (.getfield 28, 3) := by decide +kernel
theorem dX4_copyFrom_44 : decode cX4_copyFrom 44 = .ok (.iconst 0, 1) := by decide +kernel
theorem dX4_copyFrom_45 : decode cX4_copyFrom 45 = .ok (.aload_n 0, 1) := by decide +kernel
theorem dX4_copyFrom_46 : decode cX4_copyFrom 46 = .ok (.getfield 28, 3) := by decide +kernel
theorem dX4_copyFrom_49 : decode cX4_copyFrom 49 = .ok (.iconst 0, 1) := by decide +kernel
theorem dX4_copyFrom_50 : decode cX4_copyFrom 50 = .ok (.aload_n 0, 1) := by decide +kernel
theorem dX4_copyFrom_51 : decode cX4_copyFrom 51 = .ok (.getfield 28, 3) := by decide +kernel
theorem dX4_copyFrom_54 : decode cX4_copyFrom 54 = .ok (.arraylength, 1) := by decide +kernel
theorem dX4_copyFrom_55 : decode cX4_copyFrom 55 = .ok (.invokestatic 38, 3) := by decide +kernel
theorem dX4_copyFrom_58 : decode cX4_copyFrom 58 = .ok (.aload_n 1, 1) := by decide +kernel
theorem dX4_copyFrom_59 : decode cX4_copyFrom 59 = .ok (.getfield 35, 3) := by decide +kernel
theorem dX4_copyFrom_62 : decode cX4_copyFrom 62 = .ok (.iconst 0, 1) := by decide +kernel
theorem dX4_copyFrom_63 : decode cX4_copyFrom 63 = .ok (.aload_n 0, 1) := by decide +kernel
theorem dX4_copyFrom_64 : decode cX4_copyFrom 64 = .ok (.getfield 35, 3) := by decide +kernel
theorem dX4_copyFrom_67 : decode cX4_copyFrom 67 = .ok (.iconst 0, 1) := by decide +kernel
theorem dX4_copyFrom_68 : decode cX4_copyFrom 68 = .ok (.aload_n 0, 1) := by decide +kernel
theorem dX4_copyFrom_69 : decode cX4_copyFrom 69 = .ok (.getfield 35, 3) := by decide +kernel
theorem dX4_copyFrom_72 : decode cX4_copyFrom 72 = .ok (.arraylength, 1) := by decide +kernel
theorem dX4_copyFrom_73 : decode cX4_copyFrom 73 = .ok (.invokestatic 38, 3) := by decide +kernel
theorem dX4_copyFrom_76 : decode cX4_copyFrom 76 = .ok (.return_, 1) := by decide +kernel
theorem dX4_beginStrip_0 : decode cX4_beginStrip 0 = .ok (.aload_n 0, 1) := by decide +kernel
theorem dX4_beginStrip_1 : decode cX4_beginStrip 1 = .ok (.iconst 1, 1) := by decide +kernel
theorem dX4_beginStrip_2 : decode cX4_beginStrip 2 = .ok (.iload_n 1, 1) := by decide +kernel
theorem dX4_beginStrip_3 : decode cX4_beginStrip 3 = .ok (.bipush 7, 2) := by decide +kernel
theorem dX4_beginStrip_5 : decode cX4_beginStrip 5 = .ok (.invokestatic 44, 3) := by decide +kernel
theorem dX4_beginStrip_8 : decode cX4_beginStrip 8 = .ok (.invokestatic 50, 3) := by decide +kernel
theorem dX4_beginStrip_11 : decode cX4_beginStrip 11 = .ok (.putfield 9, 3) := by decide +kernel
theorem dX4_beginStrip_14 : decode cX4_beginStrip 14 = .ok (.aload_n 0, 1) := by decide +kernel
theorem dX4_beginStrip_15 : decode cX4_beginStrip 15 = .ok (.iconst 0, 1) := by decide +kernel
theorem dX4_beginStrip_16 : decode cX4_beginStrip 16 = .ok (.putfield 15, 3) := by decide +kernel
theorem dX4_beginStrip_19 : decode cX4_beginStrip 19 = .ok (.aload_n 0, 1) := by decide +kernel
theorem dX4_beginStrip_20 : decode cX4_beginStrip 20 = .ok (.iconst 0, 1) := by decide +kernel
theorem dX4_beginStrip_21 : decode cX4_beginStrip 21 = .ok (.putfield 18, 3) := by decide +kernel
theorem dX4_beginStrip_24 : decode cX4_beginStrip 24 = .ok (.aload_n 0, 1) := by decide +kernel
theorem dX4_beginStrip_25 : decode cX4_beginStrip 25 = .ok (.iconst 0, 1) := by decide +kernel
theorem dX4_beginStrip_26 : decode cX4_beginStrip 26 = .ok (.putfield 21, 3) := by decide +kernel
theorem dX4_beginStrip_29 : decode cX4_beginStrip 29 = .ok (.return_, 1) := by decide +kernel
theorem dX4_hasBend_0 : decode cX4_hasBend 0 = .ok (.iload_n 1, 1) := by decide +kernel
theorem dX4_hasBend_1 : decode cX4_hasBend 1 = .ok (.ifCond .lt 15, 3) := by decide +kernel
theorem dX4_hasBend_4 : decode cX4_hasBend 4 = .ok (.iload_n 1, 1) := by decide +kernel
theorem dX4_hasBend_5 : decode cX4_hasBend 5 = .ok (.aload_n 0, 1) := by decide +kernel
theorem dX4_hasBend_6 : decode cX4_hasBend 6 = .ok (.getfield 9, 3) := by decide +kernel
theorem dX4_hasBend_9 : decode cX4_hasBend 9 = .ok (.if_icmp .ge 7, 3) := by decide +kernel
theorem dX4_hasBend_12 : decode cX4_hasBend 12 = .ok (.iconst 1, 1) := by decide +kernel
theorem dX4_hasBend_13 : decode cX4_hasBend 13 = .ok (.goto 4, 3) := by decide +kernel
theorem dX4_hasBend_16 : decode cX4_hasBend 16 = .ok (.iconst 0, 1) := by decide +kernel
theorem dX4_hasBend_17 : decode cX4_hasBend 17 = .ok (.ireturn, 1) := by decide +kernel
theorem dX4_hasFlange_0 : decode cX4_hasFlange 0 = .ok (.iload_n 1, 1) := by decide +kernel
theorem dX4_hasFlange_1 : decode cX4_hasFlange 1 = .ok (.ifCond .lt 15, 3) := by decide +kernel
theorem dX4_hasFlange_4 : decode cX4_hasFlange 4 = .ok (.iload_n 1, 1) := by decide +kernel
theorem dX4_hasFlange_5 : decode cX4_hasFlange 5 = .ok (.aload_n 0, 1) := by decide +kernel
theorem dX4_hasFlange_6 : decode cX4_hasFlange 6 = .ok (.getfield 9, 3) := by decide +kernel
theorem dX4_hasFlange_9 : decode cX4_hasFlange 9 = .ok (.if_icmp .gt 7, 3) := by decide +kernel
theorem dX4_hasFlange_12 : decode cX4_hasFlange 12 = .ok (.iconst 1, 1) := by decide +kernel
theorem dX4_hasFlange_13 : decode cX4_hasFlange 13 = .ok (.goto 4, 3) := by decide +kernel
theorem dX4_hasFlange_16 : decode cX4_hasFlange 16 = .ok (.iconst 0, 1) := by decide +kernel
theorem dX4_hasFlange_17 : decode cX4_hasFlange 17 = .ok (.ireturn, 1) := by decide +kernel
theorem dX4_isUp_0 : decode cX4_isUp 0 = .ok (.aload_n 0, 1) := by decide +kernel
theorem dX4_isUp_1 : decode cX4_isUp 1 = .ok (.getfield 15, 3) := by decide +kernel
theorem dX4_isUp_4 : decode cX4_isUp 4 = .ok (.iload_n 1, 1) := by decide +kernel
theorem dX4_isUp_5 : decode cX4_isUp 5 = .ok (.ishr, 1) := by decide +kernel
theorem dX4_isUp_6 : decode cX4_isUp 6 = .ok (.iconst 1, 1) := by decide +kernel
theorem dX4_isUp_7 : decode cX4_isUp 7 = .ok (.iand, 1) := by decide +kernel
theorem dX4_isUp_8 : decode cX4_isUp 8 = .ok (.iconst 1, 1) := by decide +kernel
theorem dX4_isUp_9 : decode cX4_isUp 9 = .ok (.if_icmp .ne 7, 3) := by decide +kernel
theorem dX4_isUp_12 : decode cX4_isUp 12 = .ok (.iconst 1, 1) := by decide +kernel
theorem dX4_isUp_13 : decode cX4_isUp 13 = .ok (.goto 4, 3) := by decide +kernel
theorem dX4_isUp_16 : decode cX4_isUp 16 = .ok (.iconst 0, 1) := by decide +kernel
theorem dX4_isUp_17 : decode cX4_isUp 17 = .ok (.ireturn, 1) := by decide +kernel
theorem dX4_isDone_0 : decode cX4_isDone 0 = .ok (.aload_n 0, 1) := by decide +kernel
theorem dX4_isDone_1 : decode cX4_isDone 1 = .ok (.getfield 18, 3) := by decide +kernel
theorem dX4_isDone_4 : decode cX4_isDone 4 = .ok (.iload_n 1, 1) := by decide +kernel
theorem dX4_isDone_5 : decode cX4_isDone 5 = .ok (.ishr, 1) := by decide +kernel
theorem dX4_isDone_6 : decode cX4_isDone 6 = .ok (.iconst 1, 1) := by decide +kernel
theorem dX4_isDone_7 : decode cX4_isDone 7 = .ok (.iand, 1) := by decide +kernel
theorem dX4_isDone_8 : decode cX4_isDone 8 = .ok (.iconst 1, 1) := by decide +kernel
theorem dX4_isDone_9 : decode cX4_isDone 9 = .ok (.if_icmp .ne 7, 3) := by decide +kernel
theorem dX4_isDone_12 : decode cX4_isDone 12 = .ok (.iconst 1, 1) := by decide +kernel
theorem dX4_isDone_13 : decode cX4_isDone 13 = .ok (.goto 4, 3) := by decide +kernel
theorem dX4_isDone_16 : decode cX4_isDone 16 = .ok (.iconst 0, 1) := by decide +kernel
theorem dX4_isDone_17 : decode cX4_isDone 17 = .ok (.ireturn, 1) := by decide +kernel
theorem dX4_putUp_0 : decode cX4_putUp 0 = .ok (.aload_n 0, 1) := by decide +kernel
theorem dX4_putUp_1 : decode cX4_putUp 1 = .ok (.iload_n 2, 1) := by decide +kernel
theorem dX4_putUp_2 : decode cX4_putUp 2 = .ok (.ifCond .eq 14, 3) := by decide +kernel
theorem dX4_putUp_5 : decode cX4_putUp 5 = .ok (.aload_n 0, 1) := by decide +kernel
theorem dX4_putUp_6 : decode cX4_putUp 6 = .ok (.getfield 15, 3) := by decide +kernel
theorem dX4_putUp_9 : decode cX4_putUp 9 = .ok (.iconst 1, 1) := by decide +kernel
theorem dX4_putUp_10 : decode cX4_putUp 10 = .ok (.iload_n 1, 1) := by decide +kernel
theorem dX4_putUp_11 : decode cX4_putUp 11 = .ok (.ishl, 1) := by decide +kernel
theorem dX4_putUp_12 : decode cX4_putUp 12 = .ok (.ior, 1) := by decide +kernel
theorem dX4_putUp_13 : decode cX4_putUp 13 = .ok (.goto 13, 3) := by decide +kernel
theorem dX4_putUp_16 : decode cX4_putUp 16 = .ok (.aload_n 0, 1) := by decide +kernel
theorem dX4_putUp_17 : decode cX4_putUp 17 = .ok (.getfield 15, 3) := by decide +kernel
theorem dX4_putUp_20 : decode cX4_putUp 20 = .ok (.iconst 1, 1) := by decide +kernel
theorem dX4_putUp_21 : decode cX4_putUp 21 = .ok (.iload_n 1, 1) := by decide +kernel
theorem dX4_putUp_22 : decode cX4_putUp 22 = .ok (.ishl, 1) := by decide +kernel
theorem dX4_putUp_23 : decode cX4_putUp 23 = .ok (.iconst (-1), 1) := by decide +kernel
theorem dX4_putUp_24 : decode cX4_putUp 24 = .ok (.ixor, 1) := by decide +kernel
theorem dX4_putUp_25 : decode cX4_putUp 25 = .ok (.iand, 1) := by decide +kernel
theorem dX4_putUp_26 : decode cX4_putUp 26 = .ok (.putfield 15, 3) := by decide +kernel
theorem dX4_putUp_29 : decode cX4_putUp 29 = .ok (.return_, 1) := by decide +kernel
theorem dX4_doBend_0 : decode cX4_doBend 0 = .ok (.aload_n 0, 1) := by decide +kernel
theorem dX4_doBend_1 : decode cX4_doBend 1 = .ok (.dup, 1) := by decide +kernel
theorem dX4_doBend_2 : decode cX4_doBend 2 = .ok (.getfield 18, 3) := by decide +kernel
theorem dX4_doBend_5 : decode cX4_doBend 5 = .ok (.iconst 1, 1) := by decide +kernel
theorem dX4_doBend_6 : decode cX4_doBend 6 = .ok (.iload_n 1, 1) := by decide +kernel
theorem dX4_doBend_7 : decode cX4_doBend 7 = .ok (.ishl, 1) := by decide +kernel
theorem dX4_doBend_8 : decode cX4_doBend 8 = .ok (.ior, 1) := by decide +kernel
theorem dX4_doBend_9 : decode cX4_doBend 9 = .ok (.putfield 18, 3) := by decide +kernel
theorem dX4_doBend_12 : decode cX4_doBend 12 = .ok (.aload_n 0, 1) := by decide +kernel
theorem dX4_doBend_13 : decode cX4_doBend 13 = .ok (.dup, 1) := by decide +kernel
theorem dX4_doBend_14 : decode cX4_doBend 14 = .ok (.getfield 25, 3) := by decide +kernel
theorem dX4_doBend_17 : decode cX4_doBend 17 = .ok (.iconst 1, 1) := by decide +kernel
theorem dX4_doBend_18 : decode cX4_doBend 18 = .ok (.iadd, 1) := by decide +kernel
theorem dX4_doBend_19 : decode cX4_doBend 19 = .ok (.putfield 25, 3) := by decide +kernel
theorem dX4_doBend_22 : decode cX4_doBend 22 = .ok (.return_, 1) := by decide +kernel
theorem dX4_allBends_0 : decode cX4_allBends 0 = .ok (.iconst 1, 1) := by decide +kernel
theorem dX4_allBends_1 : decode cX4_allBends 1 = .ok (.aload_n 0, 1) := by decide +kernel
theorem dX4_allBends_2 : decode cX4_allBends 2 = .ok (.getfield 9, 3) := by decide +kernel
theorem dX4_allBends_5 : decode cX4_allBends 5 = .ok (.ishl, 1) := by decide +kernel
theorem dX4_allBends_6 : decode cX4_allBends 6 = .ok (.iconst 1, 1) := by decide +kernel
theorem dX4_allBends_7 : decode cX4_allBends 7 = .ok (.isub, 1) := by decide +kernel
theorem dX4_allBends_8 : decode cX4_allBends 8 = .ok (.ireturn, 1) := by decide +kernel
set_option maxRecDepth 20000 in
theorem ggX4_doneBends_J6_bitCount_0f7a4 : GoodIn wsX4_doneBends wsJ6_bitCount_0f7a4 := goodIn_r _ [5, 6, 7, 8] (by decide +kernel) (by decide +kernel)
set_option maxRecDepth 20000 in
theorem gX4_doneBends_J6_bitCount_0f7a4 : GoodIn wsX4_doneBends (va_wsS RX4 53 yJ6_bitCount_0f7a4 wsJ6_bitCount_0f7a4) := goodIn_app (goodIn_of _ (by decide +kernel)) ggX4_doneBends_J6_bitCount_0f7a4
theorem dX4_doneBends_0 : decode cX4_doneBends 0 = .ok (.aload_n 0, 1) := by decide +kernel
theorem dX4_doneBends_1 : decode cX4_doneBends 1 = .ok (.getfield 18, 3) := by decide +kernel
theorem dX4_doneBends_4 : decode cX4_doneBends 4 = .ok (.invokestatic 53, 3) := by decide +kernel
theorem dX4_doneBends_7 : decode cX4_doneBends 7 = .ok (.ireturn, 1) := by decide +kernel
set_option maxRecDepth 20000 in
theorem ggX4_openBends_X4_doneBends : GoodIn wsX4_openBends wsX4_doneBends := goodIn_r _ [6, 7, 8, 9, 10, 11, 12, 13, 14, 15, 16, 17, 18, 19, 20, 21] (by decide +kernel) (by decide +kernel)
set_option maxRecDepth 20000 in
theorem gX4_openBends_X4_doneBends : GoodIn wsX4_openBends (wsV RX4 59 RX4 yX4_doneBends wsX4_doneBends) := goodIn_app (goodIn_of _ (by decide +kernel)) ggX4_openBends_X4_doneBends
theorem dX4_openBends_0 : decode cX4_openBends 0 = .ok (.aload_n 0, 1) := by decide +kernel
theorem dX4_openBends_1 : decode cX4_openBends 1 = .ok (.getfield 9, 3) := by decide +kernel
theorem dX4_openBends_4 : decode cX4_openBends 4 = .ok (.aload_n 0, 1) := by decide +kernel
theorem dX4_openBends_5 : decode cX4_openBends 5 = .ok (.invokevirtual 59, 3) := by decide +kernel
theorem dX4_openBends_8 : decode cX4_openBends 8 = .ok (.isub, 1) := by decide +kernel
theorem dX4_openBends_9 : decode cX4_openBends 9 = .ok (.ireturn, 1) := by decide +kernel
theorem dX4_lengthAt_0 : decode cX4_lengthAt 0 = .ok (.iload_n 1, 1) := by decide +kernel
theorem dX4_lengthAt_1 : decode cX4_lengthAt 1 = .ok (.ifCond .lt 21, 3) := by decide +kernel
theorem dX4_lengthAt_4 : decode cX4_lengthAt 4 = .ok (.iload_n 1, 1) := by decide +kernel
theorem dX4_lengthAt_5 : decode cX4_lengthAt 5 = .ok (.aload_n 0, 1) := by decide +kernel
theorem dX4_lengthAt_6 : decode cX4_lengthAt 6 = .ok (.getfield 28, 3) := by decide +kernel
theorem dX4_lengthAt_9 : decode cX4_lengthAt 9 = .ok (.arraylength, 1) := by decide +kernel
theorem dX4_lengthAt_10 : decode cX4_lengthAt 10 = .ok (.if_icmp .ge 12, 3) := by decide +kernel
theorem dX4_lengthAt_13 : decode cX4_lengthAt 13 = .ok (.aload_n 0, 1) := by decide +kernel
theorem dX4_lengthAt_14 : decode cX4_lengthAt 14 = .ok (.getfield 28, 3) := by decide +kernel
theorem dX4_lengthAt_17 : decode cX4_lengthAt 17 = .ok (.iload_n 1, 1) := by decide +kernel
theorem dX4_lengthAt_18 : decode cX4_lengthAt 18 = .ok (.iaload, 1) := by decide +kernel
theorem dX4_lengthAt_19 : decode cX4_lengthAt 19 = .ok (.goto 4, 3) := by decide +kernel
theorem dX4_lengthAt_22 : decode cX4_lengthAt 22 = .ok (.iconst 0, 1) := by decide +kernel
theorem dX4_lengthAt_23 : decode cX4_lengthAt 23 = .ok (.ireturn, 1) := by decide +kernel
theorem dX4_putLength_0 : decode cX4_putLength 0 = .ok (.iload_n 1, 1) := by decide +kernel
theorem dX4_putLength_1 : decode cX4_putLength 1 = .ok (.ifCond .lt 19, 3) := by decide +kernel
theorem dX4_putLength_4 : decode cX4_putLength 4 = .ok (.iload_n 1, 1) := by decide +kernel
theorem dX4_putLength_5 : decode cX4_putLength 5 = .ok (.aload_n 0, 1) := by decide +kernel
theorem dX4_putLength_6 : decode cX4_putLength 6 = .ok (.getfield 28, 3) := by decide +kernel
theorem dX4_putLength_9 : decode cX4_putLength 9 = .ok (.arraylength, 1) := by decide +kernel
theorem dX4_putLength_10 : decode cX4_putLength 10 = .ok (.if_icmp .ge 10, 3) := by decide +kernel
theorem dX4_putLength_13 : decode cX4_putLength 13 = .ok (.aload_n 0, 1) := by decide +kernel
theorem dX4_putLength_14 : decode cX4_putLength 14 = .ok (.getfield 28, 3) := by decide +kernel
theorem dX4_putLength_17 : decode cX4_putLength 17 = .ok (.iload_n 1, 1) := by decide +kernel
theorem dX4_putLength_18 : decode cX4_putLength 18 = .ok (.iload_n 2, 1) := by decide +kernel
theorem dX4_putLength_19 : decode cX4_putLength 19 = .ok (.iastore, 1) := by decide +kernel
theorem dX4_putLength_20 : decode cX4_putLength 20 = .ok (.return_, 1) := by decide +kernel
theorem dX4_settingAt_0 : decode cX4_settingAt 0 = .ok (.iload_n 1, 1) := by decide +kernel
theorem dX4_settingAt_1 : decode cX4_settingAt 1 = .ok (.ifCond .lt 21, 3) := by decide +kernel
theorem dX4_settingAt_4 : decode cX4_settingAt 4 = .ok (.iload_n 1, 1) := by decide +kernel
theorem dX4_settingAt_5 : decode cX4_settingAt 5 = .ok (.aload_n 0, 1) := by decide +kernel
theorem dX4_settingAt_6 : decode cX4_settingAt 6 = .ok (.getfield 35, 3) := by decide +kernel
theorem dX4_settingAt_9 : decode cX4_settingAt 9 = .ok (.arraylength, 1) := by decide +kernel
theorem dX4_settingAt_10 : decode cX4_settingAt 10 = .ok (.if_icmp .ge 12, 3) := by decide +kernel
theorem dX4_settingAt_13 : decode cX4_settingAt 13 = .ok (.aload_n 0, 1) := by decide +kernel
theorem dX4_settingAt_14 : decode cX4_settingAt 14 = .ok (.getfield 35, 3) := by decide +kernel
theorem dX4_settingAt_17 : decode cX4_settingAt 17 = .ok (.iload_n 1, 1) := by decide +kernel
theorem dX4_settingAt_18 : decode cX4_settingAt 18 = .ok (.iaload, 1) := by decide +kernel
theorem dX4_settingAt_19 : decode cX4_settingAt 19 = .ok (.goto 4, 3) := by decide +kernel
theorem dX4_settingAt_22 : decode cX4_settingAt 22 = .ok (.iconst 0, 1) := by decide +kernel
theorem dX4_settingAt_23 : decode cX4_settingAt 23 = .ok (.ireturn, 1) := by decide +kernel
theorem dX4_putSetting_0 : decode cX4_putSetting 0 = .ok (.iload_n 1, 1) := by decide +kernel
theorem dX4_putSetting_1 : decode cX4_putSetting 1 = .ok (.ifCond .lt 19, 3) := by decide +kernel
theorem dX4_putSetting_4 : decode cX4_putSetting 4 = .ok (.iload_n 1, 1) := by decide +kernel
theorem dX4_putSetting_5 : decode cX4_putSetting 5 = .ok (.aload_n 0, 1) := by decide +kernel
theorem dX4_putSetting_6 : decode cX4_putSetting 6 = .ok (.getfield 35, 3) := by decide +kernel
theorem dX4_putSetting_9 : decode cX4_putSetting 9 = .ok (.arraylength, 1) := by decide +kernel
theorem dX4_putSetting_10 : decode cX4_putSetting 10 = .ok (.if_icmp .ge 10, 3) := by decide +kernel
theorem dX4_putSetting_13 : decode cX4_putSetting 13 = .ok (.aload_n 0, 1) := by decide +kernel
theorem dX4_putSetting_14 : decode cX4_putSetting 14 = .ok (.getfield 35, 3) := by decide +kernel
theorem dX4_putSetting_17 : decode cX4_putSetting 17 = .ok (.iload_n 1, 1) := by decide +kernel
theorem dX4_putSetting_18 : decode cX4_putSetting 18 = .ok (.iload_n 2, 1) := by decide +kernel
theorem dX4_putSetting_19 : decode cX4_putSetting 19 = .ok (.iastore, 1) := by decide +kernel
theorem dX4_putSetting_20 : decode cX4_putSetting 20 = .ok (.return_, 1) := by decide +kernel
set_option maxRecDepth 20000 in
theorem ggX4_wholeLength_X4_lengthAt : GoodIn wsX4_wholeLength wsX4_lengthAt := goodIn_r _ [6, 7, 8, 9, 10, 11, 12, 13, 14] (by decide +kernel) (by decide +kernel)
set_option maxRecDepth 20000 in
theorem gX4_wholeLength_X4_lengthAt : GoodIn wsX4_wholeLength (wsV RX4 63 RX4 yX4_lengthAt wsX4_lengthAt) := goodIn_app (goodIn_of _ (by decide +kernel)) ggX4_wholeLength_X4_lengthAt
theorem dX4_wholeLength_0 : decode cX4_wholeLength 0 = .ok (.iconst 0, 1) := by decide +kernel
theorem dX4_wholeLength_1 : decode cX4_wholeLength 1 = .ok (.istore_n 1, 1) := by decide +kernel
theorem dX4_wholeLength_2 : decode cX4_wholeLength 2 = .ok (.iconst 0, 1) := by decide +kernel
theorem dX4_wholeLength_3 : decode cX4_wholeLength 3 = .ok (.istore_n 2, 1) := by decide +kernel
theorem dX4_wholeLength_4 : decode cX4_wholeLength 4 = .ok (.iload_n 2, 1) := by decide +kernel
theorem dX4_wholeLength_5 : decode cX4_wholeLength 5 = .ok (.aload_n 0, 1) := by decide +kernel
theorem dX4_wholeLength_6 : decode cX4_wholeLength 6 = .ok (.getfield 9, 3) := by decide +kernel
theorem dX4_wholeLength_9 : decode cX4_wholeLength 9 = .ok (.if_icmp .gt 17, 3) := by decide +kernel
theorem dX4_wholeLength_12 : decode cX4_wholeLength 12 = .ok (.iload_n 1, 1) := by decide +kernel
theorem dX4_wholeLength_13 : decode cX4_wholeLength 13 = .ok (.aload_n 0, 1) := by decide +kernel
theorem dX4_wholeLength_14 : decode cX4_wholeLength 14 = .ok (.iload_n 2, 1) := by decide +kernel
theorem dX4_wholeLength_15 : decode cX4_wholeLength 15 = .ok (.invokevirtual 63, 3) := by decide +kernel
theorem dX4_wholeLength_18 : decode cX4_wholeLength 18 = .ok (.iadd, 1) := by decide +kernel
theorem dX4_wholeLength_19 : decode cX4_wholeLength 19 = .ok (.istore_n 1, 1) := by decide +kernel
theorem dX4_wholeLength_20 : decode cX4_wholeLength 20 = .ok (.iinc 2 1, 3) := by decide +kernel
theorem dX4_wholeLength_23 : decode cX4_wholeLength 23 = .ok (.goto (-19), 3) := by decide +kernel
theorem dX4_wholeLength_26 : decode cX4_wholeLength 26 = .ok (.iload_n 1, 1) := by decide +kernel
theorem dX4_wholeLength_27 : decode cX4_wholeLength 27 = .ok (.ireturn, 1) := by decide +kernel
set_option maxRecDepth 20000 in
theorem ggX4_degrees_X4_settingAt : GoodIn wsX4_degrees wsX4_settingAt := goodIn_r _ [9, 10, 16, 17, 18, 19, 20, 21, 22] (by decide +kernel) (by decide +kernel)
set_option maxRecDepth 20000 in
theorem gX4_degrees_X4_settingAt : GoodIn wsX4_degrees (wsV RX4 66 RX4 yX4_settingAt wsX4_settingAt) := goodIn_app (goodIn_of _ (by decide +kernel)) ggX4_degrees_X4_settingAt
set_option maxRecDepth 20000 in
theorem ggX4_degrees_X4_lengthAt : GoodIn wsX4_degrees wsX4_lengthAt := goodIn_r _ [14, 15, 16, 17, 18, 19, 20, 21, 22] (by decide +kernel) (by decide +kernel)
set_option maxRecDepth 20000 in
theorem gX4_degrees_X4_lengthAt : GoodIn wsX4_degrees (wsV RX4 63 RX4 yX4_lengthAt wsX4_lengthAt) := goodIn_app (goodIn_of _ (by decide +kernel)) ggX4_degrees_X4_lengthAt
theorem dX4_degrees_0 : decode cX4_degrees 0 = .ok (.aload_n 0, 1) := by decide +kernel
theorem dX4_degrees_1 : decode cX4_degrees 1 = .ok (.iconst 3, 1) := by decide +kernel
theorem dX4_degrees_2 : decode cX4_degrees 2 = .ok (.invokevirtual 66, 3) := by decide +kernel
theorem dX4_degrees_5 : decode cX4_degrees 5 = .ok (.aload_n 0, 1) := by decide +kernel
theorem dX4_degrees_6 : decode cX4_degrees 6 = .ok (.iload_n 1, 1) := by decide +kernel
theorem dX4_degrees_7 : decode cX4_degrees 7 = .ok (.iconst 1, 1) := by decide +kernel
theorem dX4_degrees_8 : decode cX4_degrees 8 = .ok (.iadd, 1) := by decide +kernel
theorem dX4_degrees_9 : decode cX4_degrees 9 = .ok (.invokevirtual 63, 3) := by decide +kernel
theorem dX4_degrees_12 : decode cX4_degrees 12 = .ok (.iconst 1, 1) := by decide +kernel
theorem dX4_degrees_13 : decode cX4_degrees 13 = .ok (.isub, 1) := by decide +kernel
theorem dX4_degrees_14 : decode cX4_degrees 14 = .ok (.isub, 1) := by decide +kernel
theorem dX4_degrees_15 : decode cX4_degrees 15 = .ok (.istore_n 2, 1) := by decide +kernel
theorem dX4_degrees_16 : decode cX4_degrees 16 = .ok (.bipush 90, 2) := by decide +kernel
theorem dX4_degrees_18 : decode cX4_degrees 18 = .ok (.iconst 0, 1) := by decide +kernel
theorem dX4_degrees_19 : decode cX4_degrees 19 = .ok (.iload_n 2, 1) := by decide +kernel
theorem dX4_degrees_20 : decode cX4_degrees 20 = .ok (.invokestatic 50, 3) := by decide +kernel
theorem dX4_degrees_23 : decode cX4_degrees 23 = .ok (.iadd, 1) := by decide +kernel
theorem dX4_degrees_24 : decode cX4_degrees 24 = .ok (.ireturn, 1) := by decide +kernel
set_option maxRecDepth 20000 in
theorem ggX4_clampedLength_X4_lengthAt : GoodIn wsX4_clampedLength wsX4_lengthAt := goodIn_r _ [6, 7, 8, 9, 10, 11, 12, 13, 14] (by decide +kernel) (by decide +kernel)
set_option maxRecDepth 20000 in
theorem gX4_clampedLength_X4_lengthAt : GoodIn wsX4_clampedLength (wsV RX4 63 RX4 yX4_lengthAt wsX4_lengthAt) := goodIn_app (goodIn_of _ (by decide +kernel)) ggX4_clampedLength_X4_lengthAt
theorem dX4_clampedLength_0 : decode cX4_clampedLength 0 = .ok (.aload_n 0, 1) := by decide +kernel
theorem dX4_clampedLength_1 : decode cX4_clampedLength 1 = .ok (.iload_n 1, 1) := by decide +kernel
theorem dX4_clampedLength_2 : decode cX4_clampedLength 2 = .ok (.iconst 1, 1) := by decide +kernel
theorem dX4_clampedLength_3 : decode cX4_clampedLength 3 = .ok (.iadd, 1) := by decide +kernel
theorem dX4_clampedLength_4 : decode cX4_clampedLength 4 = .ok (.invokevirtual 63, 3) := by decide +kernel
theorem dX4_clampedLength_7 : decode cX4_clampedLength 7 = .ok (.istore_n 3, 1) := by decide +kernel
theorem dX4_clampedLength_8 : decode cX4_clampedLength 8 = .ok (.iload_n 1, 1) := by decide +kernel
theorem dX4_clampedLength_9 : decode cX4_clampedLength 9 = .ok (.iconst 1, 1) := by decide +kernel
theorem dX4_clampedLength_10 : decode cX4_clampedLength 10 = .ok (.iadd, 1) := by decide +kernel
theorem dX4_clampedLength_11 : decode cX4_clampedLength 11 = .ok (.istore 4, 2) := by decide +kernel
theorem dX4_clampedLength_13 : decode cX4_clampedLength 13 = .ok (.iload 4, 2) := by decide +kernel
theorem dX4_clampedLength_15 : decode cX4_clampedLength 15 = .ok (.aload_n 0, 1) := by decide +kernel
theorem dX4_clampedLength_16 : decode cX4_clampedLength 16 = .ok (.getfield 9, 3) := by decide +kernel
theorem dX4_clampedLength_19 : decode cX4_clampedLength 19 = .ok (.if_icmp .ge 29, 3) := by decide +kernel
theorem dX4_clampedLength_22 : decode cX4_clampedLength 22 = .ok (.iload_n 2, 1) := by decide +kernel
theorem dX4_clampedLength_23 : decode cX4_clampedLength 23 = .ok (.iload 4, 2) := by decide +kernel
theorem dX4_clampedLength_25 : decode cX4_clampedLength 25 = .ok (.ishr, 1) := by decide +kernel
theorem dX4_clampedLength_26 : decode cX4_clampedLength 26 = .ok (.iconst 1, 1) := by decide +kernel
theorem dX4_clampedLength_27 : decode cX4_clampedLength 27 = .ok (.iand, 1) := by decide +kernel
theorem dX4_clampedLength_28 : decode cX4_clampedLength 28 = .ok (.ifCond .ne 20, 3) := by decide +kernel
theorem dX4_clampedLength_31 : decode cX4_clampedLength 31 = .ok (.iload_n 3, 1) := by decide +kernel
theorem dX4_clampedLength_32 : decode cX4_clampedLength 32 = .ok (.aload_n 0, 1) := by decide +kernel
theorem dX4_clampedLength_33 : decode cX4_clampedLength 33 = .ok (.iload 4, 2) := by decide +kernel
theorem dX4_clampedLength_35 : decode cX4_clampedLength 35 = .ok (.iconst 1, 1) := by decide +kernel
theorem dX4_clampedLength_36 : decode cX4_clampedLength 36 = .ok (.iadd, 1) := by decide +kernel
theorem dX4_clampedLength_37 : decode cX4_clampedLength 37 = .ok (.invokevirtual 63, 3) := by decide +kernel
theorem dX4_clampedLength_40 : decode cX4_clampedLength 40 = .ok (.iadd, 1) := by decide +kernel
theorem dX4_clampedLength_41 : decode cX4_clampedLength 41 = .ok (.istore_n 3, 1) := by decide +kernel
theorem dX4_clampedLength_42 : decode cX4_clampedLength 42 = .ok (.iinc 4 1, 3) := by decide +kernel
theorem dX4_clampedLength_45 : decode cX4_clampedLength 45 = .ok (.goto (-32), 3) := by decide +kernel
theorem dX4_clampedLength_48 : decode cX4_clampedLength 48 = .ok (.iload_n 3, 1) := by decide +kernel
theorem dX4_clampedLength_49 : decode cX4_clampedLength 49 = .ok (.ireturn, 1) := by decide +kernel
set_option maxRecDepth 20000 in
theorem ggX4_bendsLike_X4_lengthAt : GoodIn wsX4_bendsLike wsX4_lengthAt := goodIn_r _ [7, 8, 14, 15, 16, 17, 18, 19, 20] (by decide +kernel) (by decide +kernel)
set_option maxRecDepth 20000 in
theorem gX4_bendsLike_X4_lengthAt : GoodIn wsX4_bendsLike (wsV RX4 63 RX4 yX4_lengthAt wsX4_lengthAt) := goodIn_app (goodIn_of _ (by decide +kernel)) ggX4_bendsLike_X4_lengthAt
set_option maxRecDepth 20000 in
theorem ggX4_bendsLike_X4_settingAt : GoodIn wsX4_bendsLike wsX4_settingAt := goodIn_r _ [12, 13, 14, 15, 16, 17, 18, 19, 20] (by decide +kernel) (by decide +kernel)
set_option maxRecDepth 20000 in
theorem gX4_bendsLike_X4_settingAt : GoodIn wsX4_bendsLike (wsV RX4 66 RX4 yX4_settingAt wsX4_settingAt) := goodIn_app (goodIn_of _ (by decide +kernel)) ggX4_bendsLike_X4_settingAt
theorem dX4_bendsLike_0 : decode cX4_bendsLike 0 = .ok (.aload_n 0, 1) := by decide +kernel
theorem dX4_bendsLike_1 : decode cX4_bendsLike 1 = .ok (.getfield 9, 3) := by decide +kernel
theorem dX4_bendsLike_4 : decode cX4_bendsLike 4 = .ok (.aload_n 1, 1) := by decide +kernel
theorem dX4_bendsLike_5 : decode cX4_bendsLike 5 = .ok (.getfield 9, 3) := by decide +kernel
theorem dX4_bendsLike_8 : decode cX4_bendsLike 8 = .ok (.if_icmp .ne 14, 3) := by decide +kernel
theorem dX4_bendsLike_11 : decode cX4_bendsLike 11 = .ok (.aload_n 0, 1) := by decide +kernel
theorem dX4_bendsLike_12 : decode cX4_bendsLike 12 = .ok (.getfield 15, 3) := by decide +kernel
theorem dX4_bendsLike_15 : decode cX4_bendsLike 15 = .ok (.aload_n 1, 1) := by decide +kernel
theorem dX4_bendsLike_16 : decode cX4_bendsLike 16 = .ok (.getfield 15, 3) := by decide +kernel
theorem dX4_bendsLike_19 : decode cX4_bendsLike 19 = .ok (.if_icmp .eq 5, 3) := by decide +kernel
theorem dX4_bendsLike_22 : decode cX4_bendsLike 22 = .ok (.iconst 0, 1) := by decide +kernel
theorem dX4_bendsLike_23 : decode cX4_bendsLike 23 = .ok (.ireturn, 1) := by decide +kernel
theorem dX4_bendsLike_24 : decode cX4_bendsLike 24 = .ok (.iconst 0, 1) := by decide +kernel
theorem dX4_bendsLike_25 : decode cX4_bendsLike 25 = .ok (.istore_n 2, 1) := by decide +kernel
theorem dX4_bendsLike_26 : decode cX4_bendsLike 26 = .ok (.iload_n 2, 1) := by decide +kernel
theorem dX4_bendsLike_27 : decode cX4_bendsLike 27 = .ok (.aload_n 0, 1) := by decide +kernel
theorem dX4_bendsLike_28 : decode cX4_bendsLike 28 = .ok (.getfield 9, 3) := by decide +kernel
theorem dX4_bendsLike_31 : decode cX4_bendsLike 31 = .ok (.if_icmp .gt 24, 3) := by decide +kernel
theorem dX4_bendsLike_34 : decode cX4_bendsLike 34 = .ok (.aload_n 0, 1) := by decide +kernel
theorem dX4_bendsLike_35 : decode cX4_bendsLike 35 = .ok (.iload_n 2, 1) := by decide +kernel
theorem dX4_bendsLike_36 : decode cX4_bendsLike 36 = .ok (.invokevirtual 63, 3) := by decide +kernel
theorem dX4_bendsLike_39 : decode cX4_bendsLike 39 = .ok (.aload_n 1, 1) := by decide +kernel
theorem dX4_bendsLike_40 : decode cX4_bendsLike 40 = .ok (.iload_n 2, 1) := by decide +kernel
theorem dX4_bendsLike_41 : decode cX4_bendsLike 41 = .ok (.invokevirtual 63, 3) := by decide +kernel
theorem dX4_bendsLike_44 : decode cX4_bendsLike 44 = .ok (.if_icmp .eq 5, 3) := by decide +kernel
theorem dX4_bendsLike_47 : decode cX4_bendsLike 47 = .ok (.iconst 0, 1) := by decide +kernel
theorem dX4_bendsLike_48 : decode cX4_bendsLike 48 = .ok (.ireturn, 1) := by decide +kernel
theorem dX4_bendsLike_49 : decode cX4_bendsLike 49 = .ok (.iinc 2 1, 3) := by decide +kernel
theorem dX4_bendsLike_52 : decode cX4_bendsLike 52 = .ok (.goto (-26), 3) := by decide +kernel
theorem dX4_bendsLike_55 : decode cX4_bendsLike 55 = .ok (.aload_n 0, 1) := by decide +kernel
theorem dX4_bendsLike_56 : decode cX4_bendsLike 56 = .ok (.iconst 0, 1) := by decide +kernel
theorem dX4_bendsLike_57 : decode cX4_bendsLike 57 = .ok (.invokevirtual 66, 3) := by decide +kernel
theorem dX4_bendsLike_60 : decode cX4_bendsLike 60 = .ok (.aload_n 1, 1) := by decide +kernel
theorem dX4_bendsLike_61 : decode cX4_bendsLike 61 = .ok (.iconst 0, 1) := by decide +kernel
theorem dX4_bendsLike_62 : decode cX4_bendsLike 62 = .ok (.invokevirtual 66, 3) := by decide +kernel
theorem dX4_bendsLike_65 : decode cX4_bendsLike 65 = .ok (.if_icmp .ne 33, 3) := by decide +kernel
theorem dX4_bendsLike_68 : decode cX4_bendsLike 68 = .ok (.aload_n 0, 1) := by decide +kernel
theorem dX4_bendsLike_69 : decode cX4_bendsLike 69 = .ok (.iconst 1, 1) := by decide +kernel
theorem dX4_bendsLike_70 : decode cX4_bendsLike 70 = .ok (.invokevirtual 66, 3) := by decide +kernel
theorem dX4_bendsLike_73 : decode cX4_bendsLike 73 = .ok (.aload_n 1, 1) := by decide +kernel
theorem dX4_bendsLike_74 : decode cX4_bendsLike 74 = .ok (.iconst 1, 1) := by decide +kernel
theorem dX4_bendsLike_75 : decode cX4_bendsLike 75 = .ok (.invokevirtual 66, 3) := by decide +kernel
theorem dX4_bendsLike_78 : decode cX4_bendsLike 78 = .ok (.if_icmp .ne 20, 3) := by decide +kernel
theorem dX4_bendsLike_81 : decode cX4_bendsLike 81 = .ok (.aload_n 0, 1) := by decide +kernel
theorem dX4_bendsLike_82 : decode cX4_bendsLike 82 = .ok (.iconst 2, 1) := by decide +kernel
theorem dX4_bendsLike_83 : decode cX4_bendsLike 83 = .ok (.invokevirtual 66, 3) := by decide +kernel
theorem dX4_bendsLike_86 : decode cX4_bendsLike 86 = .ok (.aload_n 1, 1) := by decide +kernel
theorem dX4_bendsLike_87 : decode cX4_bendsLike 87 = .ok (.iconst 2, 1) := by decide +kernel
theorem dX4_bendsLike_88 : decode cX4_bendsLike 88 = .ok (.invokevirtual 66, 3) := by decide +kernel
theorem dX4_bendsLike_91 : decode cX4_bendsLike 91 = .ok (.if_icmp .ne 7, 3) := by decide +kernel
theorem dX4_bendsLike_94 : decode cX4_bendsLike 94 = .ok (.iconst 1, 1) := by decide +kernel
theorem dX4_bendsLike_95 : decode cX4_bendsLike 95 = .ok (.goto 4, 3) := by decide +kernel
theorem dX4_bendsLike_98 : decode cX4_bendsLike 98 = .ok (.iconst 0, 1) := by decide +kernel
theorem dX4_bendsLike_99 : decode cX4_bendsLike 99 = .ok (.ireturn, 1) := by decide +kernel
theorem dX5_init_0 : decode cX5_init 0 = .ok (.aload_n 0, 1) := by decide +kernel
theorem dX5_init_1 : decode cX5_init 1 = .ok (.invokespecial 3, 3) := by decide +kernel
theorem dX5_init_4 : decode cX5_init 4 = .ok (.aload_n 0, 1) := by decide +kernel
theorem dX5_init_5 : decode cX5_init 5 = .ok (.iconst 0, 1) := by decide +kernel
theorem dX5_init_6 : decode cX5_init 6 = .ok (.putfield 9, 3) := by decide +kernel
theorem dX5_init_9 : decode cX5_init 9 = .ok (.aload_n 0, 1) := by decide +kernel
theorem dX5_init_10 : decode cX5_init 10 = .ok (.bipush 60, 2) := by decide +kernel
theorem dX5_init_12 : decode cX5_init 12 = .ok (.newarray .char, 2) := by decide +kernel
theorem dX5_init_14 : decode cX5_init 14 = .ok (.putfield 15, 3) := by decide +kernel
theorem dX5_init_17 : decode cX5_init 17 = .ok (.return_, 1) := by decide +kernel
theorem dX5_append_0 : decode cX5_append 0 = .ok (.aload_n 0, 1) := by decide +kernel
theorem dX5_append_1 : decode cX5_append 1 = .ok (.getfield 9, 3) := by decide +kernel
theorem dX5_append_4 : decode cX5_append 4 = .ok (.ifCond .lt 35, 3) := by decide +kernel
theorem dX5_append_7 : decode cX5_append 7 = .ok (.aload_n 0, 1) := by decide +kernel
theorem dX5_append_8 : decode cX5_append 8 = .ok (.getfield 9, 3) := by decide +kernel
theorem dX5_append_11 : decode cX5_append 11 = .ok (.aload_n 0, 1) := by decide +kernel
theorem dX5_append_12 : decode cX5_append 12 = .ok (.getfield 15, 3) := by decide +kernel
theorem dX5_append_15 : decode cX5_append 15 = .ok (.arraylength, 1) := by decide +kernel
theorem dX5_append_16 : decode cX5_append 16 = .ok (.if_icmp .ge 23, 3) := by decide +kernel
theorem dX5_append_19 : decode cX5_append 19 = .ok (.aload_n 0, 1) := by decide +kernel
theorem dX5_append_20 : decode cX5_append 20 = .ok (.getfield 15, 3) := by decide +kernel
theorem dX5_append_23 : decode cX5_append 23 = .ok (.aload_n 0, 1) := by decide +kernel
theorem dX5_append_24 : decode cX5_append 24 = .ok (.getfield 9, 3) := by decide +kernel
theorem dX5_append_27 : decode cX5_append 27 = .ok (.iload_n 1, 1) := by decide +kernel
theorem dX5_append_28 : decode cX5_append 28 = .ok (.castore, 1) := by decide +kernel
theorem dX5_append_29 : decode cX5_append 29 = .ok (.aload_n 0, 1) := by decide +kernel
theorem dX5_append_30 : decode cX5_append 30 = .ok (.dup, 1) := by decide +kernel
theorem dX5_append_31 : decode cX5_append 31 = .ok (.getfield 9, 3) := by decide +kernel
theorem dX5_append_34 : decode cX5_append 34 = .ok (.iconst 1, 1) := by decide +kernel
theorem dX5_append_35 : decode cX5_append 35 = .ok (.iadd, 1) := by decide +kernel
theorem dX5_append_36 : decode cX5_append 36 = .ok (.putfield 9, 3) := by decide +kernel
theorem dX5_append_39 : decode cX5_append 39 = .ok (.return_, 1) := by decide +kernel
theorem dX5_signAt_0 : decode cX5_signAt 0 = .ok (.iload_n 1, 1) := by decide +kernel
theorem dX5_signAt_1 : decode cX5_signAt 1 = .ok (.ifCond .lt 29, 3) := by decide +kernel
theorem dX5_signAt_4 : decode cX5_signAt 4 = .ok (.iload_n 1, 1) := by decide +kernel
theorem dX5_signAt_5 : decode cX5_signAt 5 = .ok (.aload_n 0, 1) := by decide +kernel
theorem dX5_signAt_6 : decode cX5_signAt 6 = .ok (.getfield 9, 3) := by decide +kernel
theorem dX5_signAt_9 : decode cX5_signAt 9 = .ok (.if_icmp .ge 21, 3) := by decide +kernel
theorem dX5_signAt_12 : decode cX5_signAt 12 = .ok (.iload_n 1, 1) := by decide +kernel
theorem dX5_signAt_13 : decode cX5_signAt 13 = .ok (.aload_n 0, 1) := by decide +kernel
theorem dX5_signAt_14 : decode cX5_signAt 14 = .ok (.getfield 15, 3) := by decide +kernel
theorem dX5_signAt_17 : decode cX5_signAt 17 = .ok (.arraylength, 1) := by decide +kernel
theorem dX5_signAt_18 : decode cX5_signAt 18 = .ok (.if_icmp .ge 12, 3) := by decide +kernel
theorem dX5_signAt_21 : decode cX5_signAt 21 = .ok (.aload_n 0, 1) := by decide +kernel
theorem dX5_signAt_22 : decode cX5_signAt 22 = .ok (.getfield 15, 3) := by decide +kernel
theorem dX5_signAt_25 : decode cX5_signAt 25 = .ok (.iload_n 1, 1) := by decide +kernel
theorem dX5_signAt_26 : decode cX5_signAt 26 = .ok (.caload, 1) := by decide +kernel
theorem dX5_signAt_27 : decode cX5_signAt 27 = .ok (.goto 4, 3) := by decide +kernel
theorem dX5_signAt_30 : decode cX5_signAt 30 = .ok (.iconst 0, 1) := by decide +kernel
theorem dX5_signAt_31 : decode cX5_signAt 31 = .ok (.ireturn, 1) := by decide +kernel
theorem dX5_pairs_0 : decode cX5_pairs 0 = .ok (.aload_n 0, 1) := by decide +kernel
theorem dX5_pairs_1 : decode cX5_pairs 1 = .ok (.getfield 9, 3) := by decide +kernel
theorem dX5_pairs_4 : decode cX5_pairs 4 = .ok (.iconst 2, 1) := by decide +kernel
theorem dX5_pairs_5 : decode cX5_pairs 5 = .ok (.idiv, 1) := by decide +kernel
theorem dX5_pairs_6 : decode cX5_pairs 6 = .ok (.ireturn, 1) := by decide +kernel
set_option maxRecDepth 20000 in
theorem ggX5_fault_X5_isAllowed : GoodIn wsX5_fault wsX5_isAllowed := goodIn_r _ [6, 7, 8, 9, 5, 10, 1, 11, 12, 13] (by decide +kernel) (by decide +kernel)
set_option maxRecDepth 20000 in
theorem gX5_fault_X5_isAllowed : GoodIn wsX5_fault (wsV RX5 19 RX5 yX5_isAllowed wsX5_isAllowed) := goodIn_app (goodIn_of _ (by decide +kernel)) ggX5_fault_X5_isAllowed
theorem dX5_fault_0 : decode cX5_fault 0 = .ok (.iconst 0, 1) := by decide +kernel
theorem dX5_fault_1 : decode cX5_fault 1 = .ok (.istore_n 1, 1) := by decide +kernel
theorem dX5_fault_2 : decode cX5_fault 2 = .ok (.iload_n 1, 1) := by decide +kernel
theorem dX5_fault_3 : decode cX5_fault 3 = .ok (.aload_n 0, 1) := by decide +kernel
theorem dX5_fault_4 : decode cX5_fault 4 = .ok (.getfield 9, 3) := by decide +kernel
theorem dX5_fault_7 : decode cX5_fault 7 = .ok (.if_icmp .ge 19, 3) := by decide +kernel
theorem dX5_fault_10 : decode cX5_fault 10 = .ok (.aload_n 0, 1) := by decide +kernel
theorem dX5_fault_11 : decode cX5_fault 11 = .ok (.iload_n 1, 1) := by decide +kernel
theorem dX5_fault_12 : decode cX5_fault 12 = .ok (.invokevirtual 19, 3) := by decide +kernel
theorem dX5_fault_15 : decode cX5_fault 15 = .ok (.ifCond .ne 5, 3) := by decide +kernel
theorem dX5_fault_18 : decode cX5_fault 18 = .ok (.iload_n 1, 1) := by decide +kernel
theorem dX5_fault_19 : decode cX5_fault 19 = .ok (.ireturn, 1) := by decide +kernel
theorem dX5_fault_20 : decode cX5_fault 20 = .ok (.iinc 1 1, 3) := by decide +kernel
theorem dX5_fault_23 : decode cX5_fault 23 = .ok (.goto (-21), 3) := by decide +kernel
theorem dX5_fault_26 : decode cX5_fault 26 = .ok (.aload_n 0, 1) := by decide +kernel
theorem dX5_fault_27 : decode cX5_fault 27 = .ok (.getfield 9, 3) := by decide +kernel
theorem dX5_fault_30 : decode cX5_fault 30 = .ok (.iconst 3, 1) := by decide +kernel
theorem dX5_fault_31 : decode cX5_fault 31 = .ok (.if_icmp .lt 17, 3) := by decide +kernel
theorem dX5_fault_34 : decode cX5_fault 34 = .ok (.aload_n 0, 1) := by decide +kernel
theorem dX5_fault_35 : decode cX5_fault 35 = .ok (.getfield 9, 3) := by decide +kernel
theorem dX5_fault_38 : decode cX5_fault 38 = .ok (.iconst 2, 1) := by decide +kernel
theorem dX5_fault_39 : decode cX5_fault 39 = .ok (.irem, 1) := by decide +kernel
theorem dX5_fault_40 : decode cX5_fault 40 = .ok (.iconst 1, 1) := by decide +kernel
theorem dX5_fault_41 : decode cX5_fault 41 = .ok (.if_icmp .ne 7, 3) := by decide +kernel
theorem dX5_fault_44 : decode cX5_fault 44 = .ok (.iconst 1, 1) := by decide +kernel
theorem dX5_fault_45 : decode cX5_fault 45 = .ok (.goto 4, 3) := by decide +kernel
theorem dX5_fault_48 : decode cX5_fault 48 = .ok (.iconst 0, 1) := by decide +kernel
theorem dX5_fault_49 : decode cX5_fault 49 = .ok (.istore_n 1, 1) := by decide +kernel
theorem dX5_fault_50 : decode cX5_fault 50 = .ok (.iload_n 1, 1) := by decide +kernel
theorem dX5_fault_51 : decode cX5_fault 51 = .ok (.ifCond .eq 7, 3) := by decide +kernel
theorem dX5_fault_54 : decode cX5_fault 54 = .ok (.iconst (-1), 1) := by decide +kernel
theorem dX5_fault_55 : decode cX5_fault 55 = .ok (.goto 7, 3) := by decide +kernel
theorem dX5_fault_58 : decode cX5_fault 58 = .ok (.aload_n 0, 1) := by decide +kernel
theorem dX5_fault_59 : decode cX5_fault 59 = .ok (.getfield 9, 3) := by decide +kernel
theorem dX5_fault_62 : decode cX5_fault 62 = .ok (.ireturn, 1) := by decide +kernel
set_option maxRecDepth 20000 in
theorem ggX5_isAllowed_X5_signAt : GoodIn wsX5_isAllowed wsX5_signAt := goodIn_r _ [5, 6, 7, 8, 9] (by decide +kernel) (by decide +kernel)
set_option maxRecDepth 20000 in
theorem gX5_isAllowed_X5_signAt : GoodIn wsX5_isAllowed (wsV RX5 23 RX5 yX5_signAt wsX5_signAt) := goodIn_app (goodIn_of _ (by decide +kernel)) ggX5_isAllowed_X5_signAt
theorem dX5_isAllowed_0 : decode cX5_isAllowed 0 = .ok (.aload_n 0, 1) := by decide +kernel
theorem dX5_isAllowed_1 : decode cX5_isAllowed 1 = .ok (.iload_n 1, 1) := by decide +kernel
theorem dX5_isAllowed_2 : decode cX5_isAllowed 2 = .ok (.invokevirtual 23, 3) := by decide +kernel
theorem dX5_isAllowed_5 : decode cX5_isAllowed 5 = .ok (.istore_n 2, 1) := by decide +kernel
theorem dX5_isAllowed_6 : decode cX5_isAllowed 6 = .ok (.iload_n 1, 1) := by decide +kernel
theorem dX5_isAllowed_7 : decode cX5_isAllowed 7 = .ok (.bipush 14, 2) := by decide +kernel
theorem dX5_isAllowed_9 : decode cX5_isAllowed 9 = .ok (.if_icmp .le 5, 3) := by decide +kernel
theorem dX5_isAllowed_12 : decode cX5_isAllowed 12 = .ok (.iconst 0, 1) := by decide +kernel
theorem dX5_isAllowed_13 : decode cX5_isAllowed 13 = .ok (.ireturn, 1) := by decide +kernel
theorem dX5_isAllowed_14 : decode cX5_isAllowed 14 = .ok (.iload_n 1, 1) := by decide +kernel
theorem dX5_isAllowed_15 : decode cX5_isAllowed 15 = .ok (.iconst 2, 1) := by decide +kernel
theorem dX5_isAllowed_16 : decode cX5_isAllowed 16 = .ok (.irem, 1) := by decide +kernel
theorem dX5_isAllowed_17 : decode cX5_isAllowed 17 = .ok (.ifCond .ne 23, 3) := by decide +kernel
theorem dX5_isAllowed_20 : decode cX5_isAllowed 20 = .ok (.iload_n 2, 1) := by decide +kernel
theorem dX5_isAllowed_21 : decode cX5_isAllowed 21 = .ok (.bipush 49, 2) := by decide +kernel
theorem dX5_isAllowed_23 : decode cX5_isAllowed 23 = .ok (.if_icmp .lt 13, 3) := by decide +kernel
theorem dX5_isAllowed_26 : decode cX5_isAllowed 26 = .ok (.iload_n 2, 1) := by decide +kernel
theorem dX5_isAllowed_27 : decode cX5_isAllowed 27 = .ok (.bipush 57, 2) := by decide +kernel
theorem dX5_isAllowed_29 : decode cX5_isAllowed 29 = .ok (.if_icmp .gt 7, 3) := by decide +kernel
theorem dX5_isAllowed_32 : decode cX5_isAllowed 32 = .ok (.iconst 1, 1) := by decide +kernel
theorem dX5_isAllowed_33 : decode cX5_isAllowed 33 = .ok (.goto 24, 3) := by decide +kernel
theorem dX5_isAllowed_36 : decode cX5_isAllowed 36 = .ok (.iconst 0, 1) := by decide +kernel
theorem dX5_isAllowed_37 : decode cX5_isAllowed 37 = .ok (.goto 20, 3) := by decide +kernel
theorem dX5_isAllowed_40 : decode cX5_isAllowed 40 = .ok (.iload_n 2, 1) := by decide +kernel
theorem dX5_isAllowed_41 : decode cX5_isAllowed 41 = .ok (.bipush 117, 2) := by decide +kernel
theorem dX5_isAllowed_43 : decode cX5_isAllowed 43 = .ok (.if_icmp .eq 9, 3) := by decide +kernel
theorem dX5_isAllowed_46 : decode cX5_isAllowed 46 = .ok (.iload_n 2, 1) := by decide +kernel
theorem dX5_isAllowed_47 : decode cX5_isAllowed 47 = .ok (.bipush 100, 2) := by decide +kernel
theorem dX5_isAllowed_49 : decode cX5_isAllowed 49 = .ok (.if_icmp .ne 7, 3) := by decide +kernel
theorem dX5_isAllowed_52 : decode cX5_isAllowed 52 = .ok (.iconst 1, 1) := by decide +kernel
theorem dX5_isAllowed_53 : decode cX5_isAllowed 53 = .ok (.goto 4, 3) := by decide +kernel
theorem dX5_isAllowed_56 : decode cX5_isAllowed 56 = .ok (.iconst 0, 1) := by decide +kernel
theorem dX5_isAllowed_57 : decode cX5_isAllowed 57 = .ok (.ireturn, 1) := by decide +kernel
theorem dJ6_bitCount_0f7a4_0 : decode cJ6_bitCount_0f7a4 0 = .ok (.iload_n 0, 1) := by decide +kernel
theorem dJ6_bitCount_0f7a4_1 : decode cJ6_bitCount_0f7a4 1 = .ok (.iload_n 0, 1) := by decide +kernel
theorem dJ6_bitCount_0f7a4_2 : decode cJ6_bitCount_0f7a4 2 = .ok (.iconst 1, 1) := by decide +kernel
theorem dJ6_bitCount_0f7a4_3 : decode cJ6_bitCount_0f7a4 3 = .ok (.iushr, 1) := by decide +kernel
theorem dJ6_bitCount_0f7a4_4 : decode cJ6_bitCount_0f7a4 4 = .ok (.ldc_w 265, 3) := by decide +kernel
theorem dJ6_bitCount_0f7a4_7 : decode cJ6_bitCount_0f7a4 7 = .ok (.iand, 1) := by decide +kernel
theorem dJ6_bitCount_0f7a4_8 : decode cJ6_bitCount_0f7a4 8 = .ok (.isub, 1) := by decide +kernel
theorem dJ6_bitCount_0f7a4_9 : decode cJ6_bitCount_0f7a4 9 = .ok (.istore_n 0, 1) := by decide +kernel
theorem dJ6_bitCount_0f7a4_10 : decode cJ6_bitCount_0f7a4 10 = .ok (.iload_n 0, 1) := by decide +kernel
theorem dJ6_bitCount_0f7a4_11 : decode cJ6_bitCount_0f7a4 11 = .ok (.ldc_w 266, 3) := by decide +kernel
theorem dJ6_bitCount_0f7a4_14 : decode cJ6_bitCount_0f7a4 14 = .ok (.iand, 1) := by decide +kernel
theorem dJ6_bitCount_0f7a4_15 : decode cJ6_bitCount_0f7a4 15 = .ok (.iload_n 0, 1) := by decide +kernel
theorem dJ6_bitCount_0f7a4_16 : decode cJ6_bitCount_0f7a4 16 = .ok (.iconst 2, 1) := by decide +kernel
theorem dJ6_bitCount_0f7a4_17 : decode cJ6_bitCount_0f7a4 17 = .ok (.iushr, 1) := by decide +kernel
theorem dJ6_bitCount_0f7a4_18 : decode cJ6_bitCount_0f7a4 18 = .ok (.ldc_w 266, 3) := by decide +kernel
theorem dJ6_bitCount_0f7a4_21 : decode cJ6_bitCount_0f7a4 21 = .ok (.iand, 1) := by decide +kernel
theorem dJ6_bitCount_0f7a4_22 : decode cJ6_bitCount_0f7a4 22 = .ok (.iadd, 1) := by decide +kernel
theorem dJ6_bitCount_0f7a4_23 : decode cJ6_bitCount_0f7a4 23 = .ok (.istore_n 0, 1) := by decide +kernel
theorem dJ6_bitCount_0f7a4_24 : decode cJ6_bitCount_0f7a4 24 = .ok (.iload_n 0, 1) := by decide +kernel
theorem dJ6_bitCount_0f7a4_25 : decode cJ6_bitCount_0f7a4 25 = .ok (.iload_n 0, 1) := by decide +kernel
theorem dJ6_bitCount_0f7a4_26 : decode cJ6_bitCount_0f7a4 26 = .ok (.iconst 4, 1) := by decide +kernel
theorem dJ6_bitCount_0f7a4_27 : decode cJ6_bitCount_0f7a4 27 = .ok (.iushr, 1) := by decide +kernel
theorem dJ6_bitCount_0f7a4_28 : decode cJ6_bitCount_0f7a4 28 = .ok (.iadd, 1) := by decide +kernel
theorem dJ6_bitCount_0f7a4_29 : decode cJ6_bitCount_0f7a4 29 = .ok (.ldc_w 267, 3) := by decide +kernel
theorem dJ6_bitCount_0f7a4_32 : decode cJ6_bitCount_0f7a4 32 = .ok (.iand, 1) := by decide +kernel
theorem dJ6_bitCount_0f7a4_33 : decode cJ6_bitCount_0f7a4 33 = .ok (.istore_n 0, 1) := by decide +kernel
theorem dJ6_bitCount_0f7a4_34 : decode cJ6_bitCount_0f7a4 34 = .ok (.iload_n 0, 1) := by decide +kernel
theorem dJ6_bitCount_0f7a4_35 : decode cJ6_bitCount_0f7a4 35 = .ok (.iload_n 0, 1) := by decide +kernel
theorem dJ6_bitCount_0f7a4_36 : decode cJ6_bitCount_0f7a4 36 = .ok (.bipush 8, 2) := by decide +kernel
theorem dJ6_bitCount_0f7a4_38 : decode cJ6_bitCount_0f7a4 38 = .ok (.iushr, 1) := by decide +kernel
theorem dJ6_bitCount_0f7a4_39 : decode cJ6_bitCount_0f7a4 39 = .ok (.iadd, 1) := by decide +kernel
theorem dJ6_bitCount_0f7a4_40 : decode cJ6_bitCount_0f7a4 40 = .ok (.istore_n 0, 1) := by decide +kernel
theorem dJ6_bitCount_0f7a4_41 : decode cJ6_bitCount_0f7a4 41 = .ok (.iload_n 0, 1) := by decide +kernel
theorem dJ6_bitCount_0f7a4_42 : decode cJ6_bitCount_0f7a4 42 = .ok (.iload_n 0, 1) := by decide +kernel
theorem dJ6_bitCount_0f7a4_43 : decode cJ6_bitCount_0f7a4 43 = .ok (.bipush 16, 2) := by decide +kernel
theorem dJ6_bitCount_0f7a4_45 : decode cJ6_bitCount_0f7a4 45 = .ok (.iushr, 1) := by decide +kernel
theorem dJ6_bitCount_0f7a4_46 : decode cJ6_bitCount_0f7a4 46 = .ok (.iadd, 1) := by decide +kernel
theorem dJ6_bitCount_0f7a4_47 : decode cJ6_bitCount_0f7a4 47 = .ok (.istore_n 0, 1) := by decide +kernel
theorem dJ6_bitCount_0f7a4_48 : decode cJ6_bitCount_0f7a4 48 = .ok (.iload_n 0, 1) := by decide +kernel
theorem dJ6_bitCount_0f7a4_49 : decode cJ6_bitCount_0f7a4 49 = .ok (.bipush 63, 2) := by decide +kernel
theorem dJ6_bitCount_0f7a4_51 : decode cJ6_bitCount_0f7a4 51 = .ok (.iand, 1) := by decide +kernel
theorem dJ6_bitCount_0f7a4_52 : decode cJ6_bitCount_0f7a4 52 = .ok (.ireturn, 1) := by decide +kernel
end
section
abbrev iX4_copyFrom : MI := (cX4_copyFrom, 2, none, RX4, yX4_copyFrom, wsX4_copyFrom)
theorem hy_X4_copyFrom : yX4_copyFrom.cls = RX4 ∧ yX4_copyFrom.cls ≠ "java/lang/invoke/MethodHandle" ∧ yX4_copyFrom.cls ≠ "java/lang/invoke/VarHandle" ∧ (parseMethodDescriptor yX4_copyFrom.desc).map (fun d => d.parameters.length) = some 1 := by decide +kernel
theorem in_X4_copyFrom_X4 : ∀ w ∈ u_ws RX4 TX4 7, w ∈ wsX4_copyFrom := by decide +kernel
theorem fl_X4_copyFrom_9 : Cond.fieldLink RX4 9 (TX4 0).1 (TX4 0).2.1 (TX4 0).2.2.1 ∈ wsX4_copyFrom := by decide +kernel
theorem fl_X4_copyFrom_15 : Cond.fieldLink RX4 15 (TX4 1).1 (TX4 1).2.1 (TX4 1).2.2.1 ∈ wsX4_copyFrom := by decide +kernel
theorem fl_X4_copyFrom_18 : Cond.fieldLink RX4 18 (TX4 2).1 (TX4 2).2.1 (TX4 2).2.2.1 ∈ wsX4_copyFrom := by decide +kernel
theorem fl_X4_copyFrom_21 : Cond.fieldLink RX4 21 (TX4 3).1 (TX4 3).2.1 (TX4 3).2.2.1 ∈ wsX4_copyFrom := by decide +kernel
theorem fl_X4_copyFrom_25 : Cond.fieldLink RX4 25 (TX4 4).1 (TX4 4).2.1 (TX4 4).2.2.1 ∈ wsX4_copyFrom := by decide +kernel
theorem fl_X4_copyFrom_28 : Cond.fieldLink RX4 28 (TX4 5).1 (TX4 5).2.1 (TX4 5).2.2.1 ∈ wsX4_copyFrom := by decide +kernel
theorem fl_X4_copyFrom_35 : Cond.fieldLink RX4 35 (TX4 6).1 (TX4 6).2.1 (TX4 6).2.2.1 ∈ wsX4_copyFrom := by decide +kernel
def w_X4_copyFrom (r0 : Nat) (r1 : Nat) (M : Nat → Nat → Int32) (Q : (Nat → Nat → Int32) → Prop) : Prop := ∀ M1 : Nat → Nat → Int32, M1 = um M r0 (upd (M r0) 0 (M r1 0)) → ∀ M2 : Nat → Nat → Int32, M2 = um M1 r0 (upd (M1 r0) 1 (M1 r1 1)) → ∀ M3 : Nat → Nat → Int32, M3 = um M2 r0 (upd (M2 r0) 2 (M2 r1 2)) → (zb (M3 r1 3) ∧ ∀ M4 : Nat → Nat → Int32, M4 = um M3 r0 (upd (M3 r0) 3 (M3 r1 3)) → ∀ M5 : Nat → Nat → Int32, M5 = um M4 r0 (upd (M4 r0) 4 (M4 r1 4)) → ∀ M6 : Nat → Nat → Int32, M6 = um M5 (r0 + 1) (va_cpy (M5 (r1 + 1)) (M5 (r0 + 1)) 0 0 8) → ∀ M7 : Nat → Nat → Int32, M7 = um M6 (r0 + 2) (va_cpy (M6 (r1 + 2)) (M6 (r0 + 2)) 0 0 4) → Q M7)
set_option maxHeartbeats 4000000 in
set_option maxRecDepth 100000 in
theorem mw_X4_copyFrom {E : EN} {r0 : Nat} {r1 : Nat} {M : Nat → Nat → Int32} {Q : (Nat → Nat → Int32) → Prop} (h0 : isS r0) (h1 : isS r1) (hs : w_X4_copyFrom r0 r1 M Q) : MW E iX4_copyFrom 1 0 0 false [.ref r0, .ref r1] σC 46 M (qV σC 46 Q) := by
  refine mw_intro (ls := [(0, .ref r0), (1, .ref r1)]) rfl (by decide +kernel) rfl rfl (Nat.le_of_ble_eq_true rfl) ?_
  have hQ : ∀ M, Q M → (qV σC 46 Q) none σC 46 M := fun _ h => ⟨rfl, rfl, rfl, h⟩
  generalize (qV σC 46 Q) = Qf at hQ ⊢
  unfold w_X4_copyFrom at hs
  refine wp_aload_n 0 dX4_copyFrom_0 rfl ?_
  refine wp_aload_n 1 dX4_copyFrom_1 rfl ?_
  refine wp_get (v := .int (M r1 0)) dX4_copyFrom_2 (σ_isS h1) (lt_isS h1) rfl in_X4_copyFrom_X4 0 (by decide) fl_X4_copyFrom_9 rfl rfl ?_
  refine wp_put (ty := .int) tyX4 tyX4_ok nmX4 (σ_isS h0) (lt_isS h0) rfl in_X4_copyFrom_X4 0 (by decide) fl_X4_copyFrom_9 rfl rfl (by decide +kernel) rfl rfl dX4_copyFrom_5 (fun M1 eM1 => ?_)
  have hs := hs M1 eM1
  refine wp_aload_n 0 dX4_copyFrom_8 rfl ?_
  refine wp_aload_n 1 dX4_copyFrom_9 rfl ?_
  refine wp_get (v := .int (M1 r1 1)) dX4_copyFrom_10 (σ_isS h1) (lt_isS h1) rfl in_X4_copyFrom_X4 1 (by decide) fl_X4_copyFrom_15 rfl rfl ?_
  refine wp_put (ty := .int) tyX4 tyX4_ok nmX4 (σ_isS h0) (lt_isS h0) rfl in_X4_copyFrom_X4 1 (by decide) fl_X4_copyFrom_15 rfl rfl (by decide +kernel) rfl rfl dX4_copyFrom_13 (fun M2 eM2 => ?_)
  have hs := hs M2 eM2
  refine wp_aload_n 0 dX4_copyFrom_16 rfl ?_
  refine wp_aload_n 1 dX4_copyFrom_17 rfl ?_
  refine wp_get (v := .int (M2 r1 2)) dX4_copyFrom_18 (σ_isS h1) (lt_isS h1) rfl in_X4_copyFrom_X4 2 (by decide) fl_X4_copyFrom_18 rfl rfl ?_
  refine wp_put (ty := .int) tyX4 tyX4_ok nmX4 (σ_isS h0) (lt_isS h0) rfl in_X4_copyFrom_X4 2 (by decide) fl_X4_copyFrom_18 rfl rfl (by decide +kernel) rfl rfl dX4_copyFrom_21 (fun M3 eM3 => ?_)
  have hs := hs M3 eM3
  refine wp_aload_n 0 dX4_copyFrom_24 rfl ?_
  refine wp_aload_n 1 dX4_copyFrom_25 rfl ?_
  refine wp_get (v := .int (M3 r1 3)) dX4_copyFrom_26 (σ_isS h1) (lt_isS h1) rfl in_X4_copyFrom_X4 3 (by decide) fl_X4_copyFrom_21 rfl rfl ?_
  have hz := hs.1
  have hs := hs.2
  refine wp_put (ty := .boolean) tyX4 tyX4_ok nmX4 (σ_isS h0) (lt_isS h0) rfl in_X4_copyFrom_X4 3 (by decide) fl_X4_copyFrom_21 rfl rfl (by decide +kernel) hz.1 hz.2 dX4_copyFrom_29 (fun M4 eM4 => ?_)
  have hs := hs M4 eM4
  refine wp_aload_n 0 dX4_copyFrom_32 rfl ?_
  refine wp_aload_n 1 dX4_copyFrom_33 rfl ?_
  refine wp_get (v := .int (M4 r1 4)) dX4_copyFrom_34 (σ_isS h1) (lt_isS h1) rfl in_X4_copyFrom_X4 4 (by decide) fl_X4_copyFrom_25 rfl rfl ?_
  refine wp_put (ty := .int) tyX4 tyX4_ok nmX4 (σ_isS h0) (lt_isS h0) rfl in_X4_copyFrom_X4 4 (by decide) fl_X4_copyFrom_25 rfl rfl (by decide +kernel) rfl rfl dX4_copyFrom_37 (fun M5 eM5 => ?_)
  have hs := hs M5 eM5
  refine wp_aload_n 1 dX4_copyFrom_40 rfl ?_
  refine wp_get (v := .ref (r1 + 1)) dX4_copyFrom_41 (σ_isS h1) (lt_isS h1) rfl in_X4_copyFrom_X4 5 (by decide) fl_X4_copyFrom_28 rfl rfl ?_
  refine wp_iconst (v := 0) dX4_copyFrom_44 (by decide) ?_
  refine wp_aload_n 0 dX4_copyFrom_45 rfl ?_
  refine wp_get (v := .ref (r0 + 1)) dX4_copyFrom_46 (σ_isS h0) (lt_isS h0) rfl in_X4_copyFrom_X4 5 (by decide) fl_X4_copyFrom_28 rfl rfl ?_
  refine wp_iconst (v := 0) dX4_copyFrom_49 (by decide) ?_
  refine wp_aload_n 0 dX4_copyFrom_50 rfl ?_
  refine wp_get (v := .ref (r0 + 1)) dX4_copyFrom_51 (σ_isS h0) (lt_isS h0) rfl in_X4_copyFrom_X4 5 (by decide) fl_X4_copyFrom_28 rfl rfl ?_
  refine wp_alen (v := 8) (σ_isS1 h0) (lt_isS1 h0) (by decide) (by decide) dX4_copyFrom_54 ?_
  refine wp_copy (by decide +kernel) (by decide +kernel) (by decide +kernel) (by decide +kernel) (σ_isS1 h1) (lt_isS1 h1) (σ_isS1 h0) (lt_isS1 h0) (by decide) (by decide) (by decide) (by decide) (by decide) (by decide) (Nat.le_of_ble_eq_true rfl) dX4_copyFrom_55 (fun M6 eM6 => ?_)
  have hs := hs M6 eM6
  refine wp_aload_n 1 dX4_copyFrom_58 rfl ?_
  refine wp_get (v := .ref (r1 + 2)) dX4_copyFrom_59 (σ_isS h1) (lt_isS h1) rfl in_X4_copyFrom_X4 6 (by decide) fl_X4_copyFrom_35 rfl rfl ?_
  refine wp_iconst (v := 0) dX4_copyFrom_62 (by decide) ?_
  refine wp_aload_n 0 dX4_copyFrom_63 rfl ?_
  refine wp_get (v := .ref (r0 + 2)) dX4_copyFrom_64 (σ_isS h0) (lt_isS h0) rfl in_X4_copyFrom_X4 6 (by decide) fl_X4_copyFrom_35 rfl rfl ?_
  refine wp_iconst (v := 0) dX4_copyFrom_67 (by decide) ?_
  refine wp_aload_n 0 dX4_copyFrom_68 rfl ?_
  refine wp_get (v := .ref (r0 + 2)) dX4_copyFrom_69 (σ_isS h0) (lt_isS h0) rfl in_X4_copyFrom_X4 6 (by decide) fl_X4_copyFrom_35 rfl rfl ?_
  refine wp_alen (v := 4) (σ_isS2 h0) (lt_isS2 h0) (by decide) (by decide) dX4_copyFrom_72 ?_
  refine wp_copy (by decide +kernel) (by decide +kernel) (by decide +kernel) (by decide +kernel) (σ_isS2 h1) (lt_isS2 h1) (σ_isS2 h0) (lt_isS2 h0) (by decide) (by decide) (by decide) (by decide) (by decide) (by decide) (Nat.le_of_ble_eq_true rfl) dX4_copyFrom_73 (fun M7 eM7 => ?_)
  have hs := hs M7 eM7
  exact wp_return rfl dX4_copyFrom_76 (hQ _ hs)
abbrev iX4_settingAt : MI := (cX4_settingAt, 2, some .int, RX4, yX4_settingAt, wsX4_settingAt)
theorem hy_X4_settingAt : yX4_settingAt.cls = RX4 ∧ yX4_settingAt.cls ≠ "java/lang/invoke/MethodHandle" ∧ yX4_settingAt.cls ≠ "java/lang/invoke/VarHandle" ∧ (parseMethodDescriptor yX4_settingAt.desc).map (fun d => d.parameters.length) = some 1 := by decide +kernel
theorem in_X4_settingAt_X4 : ∀ w ∈ u_ws RX4 TX4 7, w ∈ wsX4_settingAt := by decide +kernel
theorem fl_X4_settingAt_35 : Cond.fieldLink RX4 35 (TX4 6).1 (TX4 6).2.1 (TX4 6).2.2.1 ∈ wsX4_settingAt := by decide +kernel
def w_X4_settingAt (r0 : Nat) (a : Int32) (M : Nat → Nat → Int32) (Q : Int32 → (Nat → Nat → Int32) → Prop) : Prop := ((a < 0 → Q (0 : Int32) M) ∧ (¬ a < 0 → (((4 : Int32) ≤ a → Q (0 : Int32) M) ∧ (¬ (4 : Int32) ≤ a → (vp_in a 4 ∧ Q (M (r0 + 2) a.toNatClampNeg) M)))))
set_option maxHeartbeats 4000000 in
set_option maxRecDepth 100000 in
theorem mw_X4_settingAt {E : EN} {r0 : Nat} {a : Int32} {M : Nat → Nat → Int32} {Q : Int32 → (Nat → Nat → Int32) → Prop} (h0 : isS r0) (hs : w_X4_settingAt r0 a M Q) : MW E iX4_settingAt 1 0 0 false [.ref r0, .int a] σC 46 M (qI σC 46 Q) := by
  refine mw_intro (ls := [(0, .ref r0), (1, .int a)]) rfl (by decide +kernel) rfl rfl (Nat.le_of_ble_eq_true rfl) ?_
  have hQ : ∀ x M, Q x M → (qI σC 46 Q) (some (.int x)) σC 46 M := fun _ _ h => ⟨_, rfl, rfl, rfl, h⟩
  generalize (qI σC 46 Q) = Qf at hQ ⊢
  unfold w_X4_settingAt at hs
  refine wp_iload_n 1 dX4_settingAt_0 rfl ?_
  refine wp_if_lt (tgt := 22) dX4_settingAt_1 (by decide) (fun c1 => ?_) (fun c1 => ?_)
  · have hs := hs.1 c1
    refine wp_iconst (v := 0) dX4_settingAt_22 (by decide) ?_
    exact wp_ireturn rfl rfl dX4_settingAt_23 (hQ _ _ hs)
  · have hs := hs.2 c1
    refine wp_iload_n 1 dX4_settingAt_4 rfl ?_
    refine wp_aload_n 0 dX4_settingAt_5 rfl ?_
    refine wp_get (v := .ref (r0 + 2)) dX4_settingAt_6 (σ_isS h0) (lt_isS h0) rfl in_X4_settingAt_X4 6 (by decide) fl_X4_settingAt_35 rfl rfl ?_
    refine wp_alen (v := 4) (σ_isS2 h0) (lt_isS2 h0) (by decide) (by decide) dX4_settingAt_9 ?_
    refine wp_icmp_ge (tgt := 22) dX4_settingAt_10 (by decide) (fun c2 => ?_) (fun c2 => ?_)
    · have hs := hs.1 c2
      refine wp_iconst (v := 0) dX4_settingAt_22 (by decide) ?_
      exact wp_ireturn rfl rfl dX4_settingAt_23 (hQ _ _ hs)
    · have hs := hs.2 c2
      refine wp_aload_n 0 dX4_settingAt_13 rfl ?_
      refine wp_get (v := .ref (r0 + 2)) dX4_settingAt_14 (σ_isS h0) (lt_isS h0) rfl in_X4_settingAt_X4 6 (by decide) fl_X4_settingAt_35 rfl rfl ?_
      refine wp_iload_n 1 dX4_settingAt_17 rfl ?_
      have hv := hs.1
      have hs := hs.2
      refine wp_iald (σ_isS2 h0) (lt_isS2 h0) hv dX4_settingAt_18 ?_
      refine wp_goto (tgt := 23) dX4_settingAt_19 (by decide) ?_
      exact wp_ireturn rfl rfl dX4_settingAt_23 (hQ _ _ hs)
abbrev iX4_isUp : MI := (cX4_isUp, 2, some .boolean, RX4, yX4_isUp, wsX4_isUp)
theorem hy_X4_isUp : yX4_isUp.cls = RX4 ∧ yX4_isUp.cls ≠ "java/lang/invoke/MethodHandle" ∧ yX4_isUp.cls ≠ "java/lang/invoke/VarHandle" ∧ (parseMethodDescriptor yX4_isUp.desc).map (fun d => d.parameters.length) = some 1 := by decide +kernel
theorem in_X4_isUp_X4 : ∀ w ∈ u_ws RX4 TX4 7, w ∈ wsX4_isUp := by decide +kernel
theorem fl_X4_isUp_15 : Cond.fieldLink RX4 15 (TX4 1).1 (TX4 1).2.1 (TX4 1).2.2.1 ∈ wsX4_isUp := by decide +kernel
def w_X4_isUp (r0 : Nat) (a : Int32) (M : Nat → Nat → Int32) (Q : Int32 → (Nat → Nat → Int32) → Prop) : Prop := ((¬ (((M r0 1) >>> (a &&& 31)) &&& (1 : Int32)) = (1 : Int32) → Q (0 : Int32) M) ∧ ((((M r0 1) >>> (a &&& 31)) &&& (1 : Int32)) = (1 : Int32) → Q (1 : Int32) M))
set_option maxHeartbeats 4000000 in
set_option maxRecDepth 100000 in
theorem mw_X4_isUp {E : EN} {r0 : Nat} {a : Int32} {M : Nat → Nat → Int32} {Q : Int32 → (Nat → Nat → Int32) → Prop} (h0 : isS r0) (hs : w_X4_isUp r0 a M Q) : MW E iX4_isUp 1 0 0 false [.ref r0, .int a] σC 46 M (qI σC 46 Q) := by
  refine mw_intro (ls := [(0, .ref r0), (1, .int a)]) rfl (by decide +kernel) rfl rfl (Nat.le_of_ble_eq_true rfl) ?_
  have hQ : ∀ x M, Q x M → (qI σC 46 Q) (some (.int x)) σC 46 M := fun _ _ h => ⟨_, rfl, rfl, rfl, h⟩
  generalize (qI σC 46 Q) = Qf at hQ ⊢
  unfold w_X4_isUp at hs
  refine wp_aload_n 0 dX4_isUp_0 rfl ?_
  refine wp_get (v := .int (M r0 1)) dX4_isUp_1 (σ_isS h0) (lt_isS h0) rfl in_X4_isUp_X4 1 (by decide) fl_X4_isUp_15 rfl rfl ?_
  refine wp_iload_n 1 dX4_isUp_4 rfl ?_
  refine wp_ishr dX4_isUp_5 ?_
  refine wp_iconst (v := 1) dX4_isUp_6 (by decide) ?_
  refine wp_iand dX4_isUp_7 ?_
  refine wp_iconst (v := 1) dX4_isUp_8 (by decide) ?_
  refine wp_icmp_ne (tgt := 16) dX4_isUp_9 (by decide) (fun c1 => ?_) (fun c1 => ?_)
  · have hs := hs.1 c1
    refine wp_iconst (v := 0) dX4_isUp_16 (by decide) ?_
    exact wp_ireturn rfl rfl dX4_isUp_17 (hQ _ _ hs)
  · have hs := hs.2 c1
    refine wp_iconst (v := 1) dX4_isUp_12 (by decide) ?_
    refine wp_goto (tgt := 17) dX4_isUp_13 (by decide) ?_
    exact wp_ireturn rfl rfl dX4_isUp_17 (hQ _ _ hs)
abbrev iX4_lengthAt : MI := (cX4_lengthAt, 2, some .int, RX4, yX4_lengthAt, wsX4_lengthAt)
theorem hy_X4_lengthAt : yX4_lengthAt.cls = RX4 ∧ yX4_lengthAt.cls ≠ "java/lang/invoke/MethodHandle" ∧ yX4_lengthAt.cls ≠ "java/lang/invoke/VarHandle" ∧ (parseMethodDescriptor yX4_lengthAt.desc).map (fun d => d.parameters.length) = some 1 := by decide +kernel
theorem in_X4_lengthAt_X4 : ∀ w ∈ u_ws RX4 TX4 7, w ∈ wsX4_lengthAt := by decide +kernel
theorem fl_X4_lengthAt_28 : Cond.fieldLink RX4 28 (TX4 5).1 (TX4 5).2.1 (TX4 5).2.2.1 ∈ wsX4_lengthAt := by decide +kernel
def w_X4_lengthAt (r0 : Nat) (a : Int32) (M : Nat → Nat → Int32) (Q : Int32 → (Nat → Nat → Int32) → Prop) : Prop := ((a < 0 → Q (0 : Int32) M) ∧ (¬ a < 0 → (((8 : Int32) ≤ a → Q (0 : Int32) M) ∧ (¬ (8 : Int32) ≤ a → (vp_in a 8 ∧ Q (M (r0 + 1) a.toNatClampNeg) M)))))
set_option maxHeartbeats 4000000 in
set_option maxRecDepth 100000 in
theorem mw_X4_lengthAt {E : EN} {r0 : Nat} {a : Int32} {M : Nat → Nat → Int32} {Q : Int32 → (Nat → Nat → Int32) → Prop} (h0 : isS r0) (hs : w_X4_lengthAt r0 a M Q) : MW E iX4_lengthAt 1 0 0 false [.ref r0, .int a] σC 46 M (qI σC 46 Q) := by
  refine mw_intro (ls := [(0, .ref r0), (1, .int a)]) rfl (by decide +kernel) rfl rfl (Nat.le_of_ble_eq_true rfl) ?_
  have hQ : ∀ x M, Q x M → (qI σC 46 Q) (some (.int x)) σC 46 M := fun _ _ h => ⟨_, rfl, rfl, rfl, h⟩
  generalize (qI σC 46 Q) = Qf at hQ ⊢
  unfold w_X4_lengthAt at hs
  refine wp_iload_n 1 dX4_lengthAt_0 rfl ?_
  refine wp_if_lt (tgt := 22) dX4_lengthAt_1 (by decide) (fun c1 => ?_) (fun c1 => ?_)
  · have hs := hs.1 c1
    refine wp_iconst (v := 0) dX4_lengthAt_22 (by decide) ?_
    exact wp_ireturn rfl rfl dX4_lengthAt_23 (hQ _ _ hs)
  · have hs := hs.2 c1
    refine wp_iload_n 1 dX4_lengthAt_4 rfl ?_
    refine wp_aload_n 0 dX4_lengthAt_5 rfl ?_
    refine wp_get (v := .ref (r0 + 1)) dX4_lengthAt_6 (σ_isS h0) (lt_isS h0) rfl in_X4_lengthAt_X4 5 (by decide) fl_X4_lengthAt_28 rfl rfl ?_
    refine wp_alen (v := 8) (σ_isS1 h0) (lt_isS1 h0) (by decide) (by decide) dX4_lengthAt_9 ?_
    refine wp_icmp_ge (tgt := 22) dX4_lengthAt_10 (by decide) (fun c2 => ?_) (fun c2 => ?_)
    · have hs := hs.1 c2
      refine wp_iconst (v := 0) dX4_lengthAt_22 (by decide) ?_
      exact wp_ireturn rfl rfl dX4_lengthAt_23 (hQ _ _ hs)
    · have hs := hs.2 c2
      refine wp_aload_n 0 dX4_lengthAt_13 rfl ?_
      refine wp_get (v := .ref (r0 + 1)) dX4_lengthAt_14 (σ_isS h0) (lt_isS h0) rfl in_X4_lengthAt_X4 5 (by decide) fl_X4_lengthAt_28 rfl rfl ?_
      refine wp_iload_n 1 dX4_lengthAt_17 rfl ?_
      have hv := hs.1
      have hs := hs.2
      refine wp_iald (σ_isS1 h0) (lt_isS1 h0) hv dX4_lengthAt_18 ?_
      refine wp_goto (tgt := 23) dX4_lengthAt_19 (by decide) ?_
      exact wp_ireturn rfl rfl dX4_lengthAt_23 (hQ _ _ hs)
abbrev iX4_clampedLength : MI := (cX4_clampedLength, 5, some .int, RX4, yX4_clampedLength, wsX4_clampedLength)
theorem hy_X4_clampedLength : yX4_clampedLength.cls = RX4 ∧ yX4_clampedLength.cls ≠ "java/lang/invoke/MethodHandle" ∧ yX4_clampedLength.cls ≠ "java/lang/invoke/VarHandle" ∧ (parseMethodDescriptor yX4_clampedLength.desc).map (fun d => d.parameters.length) = some 2 := by decide +kernel
theorem in_X4_clampedLength_X4 : ∀ w ∈ u_ws RX4 TX4 7, w ∈ wsX4_clampedLength := by decide +kernel
theorem fl_X4_clampedLength_9 : Cond.fieldLink RX4 9 (TX4 0).1 (TX4 0).2.1 (TX4 0).2.2.1 ∈ wsX4_clampedLength := by decide +kernel
def w_X4_clampedLength_13 (r0 : Nat) : Nat → Int32 → Int32 → Int32 → (Nat → Nat → Int32) → (Int32 → Int32 → (Nat → Nat → Int32) → Prop) → Prop
  | 0, _, _, _, _, _ => False
  | n + 1, x2, x3, x4, M, K => (((M r0 0) ≤ x4 → K x3 x4 M) ∧ (¬ (M r0 0) ≤ x4 → ((¬ ((x2 >>> (x4 &&& 31)) &&& (1 : Int32)) = 0 → K x3 x4 M) ∧ (((x2 >>> (x4 &&& 31)) &&& (1 : Int32)) = 0 → w_X4_lengthAt r0 (x4 + (1 : Int32)) M (fun v7 M6 => ∀ y8 : Int32, y8 = (x3 + v7) → ∀ y9 : Int32, y9 = x4 + (1 : Int32) → w_X4_clampedLength_13 r0 n x2 y8 y9 M6 K)))))
set_option maxHeartbeats 4000000 in
set_option maxRecDepth 100000 in
theorem lp_X4_clampedLength_13 {E : EN} {r0 : Nat} {x2 : Int32} {Qf : PST} {Q : Int32 → (Nat → Nat → Int32) → Prop} {K : Int32 → Int32 → (Nat → Nat → Int32) → Prop} (h0 : isS r0) (hK : ∀ (z3 : Int32) (z4 : Int32) (M : Nat → Nat → Int32), K z3 z4 M → WP E iX4_clampedLength 2 0 0 false 48 [(3, .int z3)] [] σC 46 M Qf) : ∀ (nn : Nat) (x3 : Int32) (x4 : Int32) (M : Nat → Nat → Int32), w_X4_clampedLength_13 r0 nn x2 x3 x4 M K → WP E iX4_clampedLength 2 0 0 false 13 [(0, .ref r0), (2, .int x2), (3, .int x3), (4, .int x4)] [] σC 46 M Qf := by
  intro nn
  induction nn with
  | zero => intro x3 x4 M hs; exact hs.elim
  | succ n ih =>
    intro x3 x4 M hs
    unfold w_X4_clampedLength_13 at hs
    refine wp_iload 3 dX4_clampedLength_13 rfl ?_
    refine wp_aload_n 0 dX4_clampedLength_15 rfl ?_
    refine wp_get (v := .int (M r0 0)) dX4_clampedLength_16 (σ_isS h0) (lt_isS h0) rfl in_X4_clampedLength_X4 0 (by decide) fl_X4_clampedLength_9 rfl rfl ?_
    refine wp_icmp_ge (tgt := 48) dX4_clampedLength_19 (by decide) (fun c4 => ?_) (fun c4 => ?_)
    · have hs := hs.1 c4
      refine wp_sub (ls' := [(3, .int x3)]) [2] rfl ?_
      exact hK _ _ _ hs
    · have hs := hs.2 c4
      refine wp_iload_n 1 dX4_clampedLength_22 rfl ?_
      refine wp_iload 3 dX4_clampedLength_23 rfl ?_
      refine wp_ishr dX4_clampedLength_25 ?_
      refine wp_iconst (v := 1) dX4_clampedLength_26 (by decide) ?_
      refine wp_iand dX4_clampedLength_27 ?_
      refine wp_if_ne (tgt := 48) dX4_clampedLength_28 (by decide) (fun c5 => ?_) (fun c5 => ?_)
      · have hs := hs.1 c5
        refine wp_sub (ls' := [(3, .int x3)]) [2] rfl ?_
        exact hK _ _ _ hs
      · have hs := hs.2 c5
        refine wp_iload_n 2 dX4_clampedLength_31 rfl ?_
        refine wp_aload_n 0 dX4_clampedLength_32 rfl ?_
        refine wp_iload 3 dX4_clampedLength_33 rfl ?_
        refine wp_iconst (v := 1) dX4_clampedLength_35 (by decide) ?_
        refine wp_iadd dX4_clampedLength_36 ?_
        refine wp_cVi (As := [.int (x4 + (1 : Int32))]) (st := [.int x3]) (mw_X4_lengthAt h0 hs) gX4_clampedLength_X4_lengthAt rfl hy_X4_lengthAt rfl (σ_isS h0) (lt_isS h0) rfl (by decide) (by decide) (Nat.le_of_ble_eq_true rfl) rfl dX4_clampedLength_37 (fun v7 M6 hs => ?_)
        refine wp_iadd dX4_clampedLength_40 ?_
        refine wp_topi (fun y8 ey8 => ?_)
        have hs := hs y8 ey8
        refine wp_istore_n (ls' := [(0, .ref r0), (2, .int x2), (3, .int y8), (4, .int x4)]) [1, 2, 0, 3] dX4_clampedLength_41 rfl (by decide) ?_
        obtain ⟨y9, ey9⟩ : ∃ y : Int32, y = x4 + (1 : Int32) := ⟨_, rfl⟩
        have hs := hs y9 ey9
        refine wp_iinc (v := y9) (ls' := [(0, .ref r0), (2, .int x2), (3, .int y8), (4, .int y9)]) 3 [1, 2, 3, 0] dX4_clampedLength_42 rfl (by rw [ey9]; rfl) rfl (by decide) ?_
        refine wp_goto (tgt := 13) dX4_clampedLength_45 (by decide) ?_
        refine wp_sub (ls' := [(0, .ref r0), (2, .int x2), (3, .int y8), (4, .int y9)]) [0, 1, 2, 3] rfl ?_
        exact ih _ _ _ hs
def w_X4_clampedLength (r0 : Nat) (a : Int32) (b : Int32) (M : Nat → Nat → Int32) (Q : Int32 → (Nat → Nat → Int32) → Prop) : Prop := w_X4_lengthAt r0 (a + (1 : Int32)) M (fun v2 M1 => ∀ y3 : Int32, y3 = (a + (1 : Int32)) → w_X4_clampedLength_13 r0 FU b v2 y3 M1 (fun y10 y11 M12 => Q y10 M12))
set_option maxHeartbeats 4000000 in
set_option maxRecDepth 100000 in
theorem mw_X4_clampedLength {E : EN} {r0 : Nat} {a : Int32} {b : Int32} {M : Nat → Nat → Int32} {Q : Int32 → (Nat → Nat → Int32) → Prop} (h0 : isS r0) (hs : w_X4_clampedLength r0 a b M Q) : MW E iX4_clampedLength 2 0 0 false [.ref r0, .int a, .int b] σC 46 M (qI σC 46 Q) := by
  refine mw_intro (ls := [(0, .ref r0), (1, .int a), (2, .int b)]) rfl (by decide +kernel) rfl rfl (Nat.le_of_ble_eq_true rfl) ?_
  have hQ : ∀ x M, Q x M → (qI σC 46 Q) (some (.int x)) σC 46 M := fun _ _ h => ⟨_, rfl, rfl, rfl, h⟩
  generalize (qI σC 46 Q) = Qf at hQ ⊢
  unfold w_X4_clampedLength at hs
  refine wp_aload_n 0 dX4_clampedLength_0 rfl ?_
  refine wp_iload_n 1 dX4_clampedLength_1 rfl ?_
  refine wp_iconst (v := 1) dX4_clampedLength_2 (by decide) ?_
  refine wp_iadd dX4_clampedLength_3 ?_
  refine wp_cVi (As := [.int (a + (1 : Int32))]) (st := []) (mw_X4_lengthAt h0 hs) gX4_clampedLength_X4_lengthAt rfl hy_X4_lengthAt rfl (σ_isS h0) (lt_isS h0) rfl (by decide) (by decide) (Nat.le_of_ble_eq_true rfl) rfl dX4_clampedLength_4 (fun v2 M1 hs => ?_)
  refine wp_istore_n (ls' := [(0, .ref r0), (1, .int a), (2, .int b), (3, .int v2)]) [1, 2, 3, 0] dX4_clampedLength_7 rfl (by decide) ?_
  refine wp_iload_n 1 dX4_clampedLength_8 rfl ?_
  refine wp_iconst (v := 1) dX4_clampedLength_9 (by decide) ?_
  refine wp_iadd dX4_clampedLength_10 ?_
  refine wp_topi (fun y3 ey3 => ?_)
  have hs := hs y3 ey3
  refine wp_istore (ls' := [(0, .ref r0), (1, .int a), (2, .int b), (3, .int v2), (4, .int y3)]) [1, 2, 3, 4, 0] dX4_clampedLength_11 rfl (by decide) ?_
  refine wp_sub (ls' := [(0, .ref r0), (2, .int b), (3, .int v2), (4, .int y3)]) [0, 2, 3, 4] rfl ?_
  refine lp_X4_clampedLength_13 h0 (K := fun y10 y11 M12 => Q y10 M12) (fun y10 y11 M12 hs => ?_) FU _ _ _ hs
  refine wp_iload_n 0 dX4_clampedLength_48 rfl ?_
  exact wp_ireturn rfl rfl dX4_clampedLength_49 (hQ _ _ hs)
abbrev iX4_allBends : MI := (cX4_allBends, 1, some .int, RX4, yX4_allBends, wsX4_allBends)
theorem hy_X4_allBends : yX4_allBends.cls = RX4 ∧ yX4_allBends.cls ≠ "java/lang/invoke/MethodHandle" ∧ yX4_allBends.cls ≠ "java/lang/invoke/VarHandle" ∧ (parseMethodDescriptor yX4_allBends.desc).map (fun d => d.parameters.length) = some 0 := by decide +kernel
theorem in_X4_allBends_X4 : ∀ w ∈ u_ws RX4 TX4 7, w ∈ wsX4_allBends := by decide +kernel
theorem fl_X4_allBends_9 : Cond.fieldLink RX4 9 (TX4 0).1 (TX4 0).2.1 (TX4 0).2.2.1 ∈ wsX4_allBends := by decide +kernel
def w_X4_allBends (r0 : Nat) (M : Nat → Nat → Int32) (Q : Int32 → (Nat → Nat → Int32) → Prop) : Prop := Q (((1 : Int32) <<< ((M r0 0) &&& 31)) - (1 : Int32)) M
set_option maxHeartbeats 4000000 in
set_option maxRecDepth 100000 in
theorem mw_X4_allBends {E : EN} {r0 : Nat} {M : Nat → Nat → Int32} {Q : Int32 → (Nat → Nat → Int32) → Prop} (h0 : isS r0) (hs : w_X4_allBends r0 M Q) : MW E iX4_allBends 1 0 0 false [.ref r0] σC 46 M (qI σC 46 Q) := by
  refine mw_intro (ls := [(0, .ref r0)]) rfl (by decide +kernel) rfl rfl (Nat.le_of_ble_eq_true rfl) ?_
  have hQ : ∀ x M, Q x M → (qI σC 46 Q) (some (.int x)) σC 46 M := fun _ _ h => ⟨_, rfl, rfl, rfl, h⟩
  generalize (qI σC 46 Q) = Qf at hQ ⊢
  unfold w_X4_allBends at hs
  refine wp_iconst (v := 1) dX4_allBends_0 (by decide) ?_
  refine wp_aload_n 0 dX4_allBends_1 rfl ?_
  refine wp_get (v := .int (M r0 0)) dX4_allBends_2 (σ_isS h0) (lt_isS h0) rfl in_X4_allBends_X4 0 (by decide) fl_X4_allBends_9 rfl rfl ?_
  refine wp_ishl dX4_allBends_5 ?_
  refine wp_iconst (v := 1) dX4_allBends_6 (by decide) ?_
  refine wp_isub dX4_allBends_7 ?_
  exact wp_ireturn rfl rfl dX4_allBends_8 (hQ _ _ hs)
abbrev iX4_bendsLike : MI := (cX4_bendsLike, 3, some .boolean, RX4, yX4_bendsLike, wsX4_bendsLike)
theorem hy_X4_bendsLike : yX4_bendsLike.cls = RX4 ∧ yX4_bendsLike.cls ≠ "java/lang/invoke/MethodHandle" ∧ yX4_bendsLike.cls ≠ "java/lang/invoke/VarHandle" ∧ (parseMethodDescriptor yX4_bendsLike.desc).map (fun d => d.parameters.length) = some 1 := by decide +kernel
theorem in_X4_bendsLike_X4 : ∀ w ∈ u_ws RX4 TX4 7, w ∈ wsX4_bendsLike := by decide +kernel
theorem fl_X4_bendsLike_9 : Cond.fieldLink RX4 9 (TX4 0).1 (TX4 0).2.1 (TX4 0).2.2.1 ∈ wsX4_bendsLike := by decide +kernel
theorem fl_X4_bendsLike_15 : Cond.fieldLink RX4 15 (TX4 1).1 (TX4 1).2.1 (TX4 1).2.2.1 ∈ wsX4_bendsLike := by decide +kernel
def w_X4_bendsLike_26 (r0 : Nat) (r1 : Nat) : Nat → Int32 → (Nat → Nat → Int32) → (Int32 → (Nat → Nat → Int32) → Prop) → (Int32 → (Nat → Nat → Int32) → Prop) → Prop
  | 0, _, _, _, _ => False
  | n + 1, x2, M, Q, K => (((M r0 0) < x2 → K x2 M) ∧ (¬ (M r0 0) < x2 → w_X4_lengthAt r0 x2 M (fun v5 M4 => w_X4_lengthAt r1 x2 M4 (fun v7 M6 => ((v5 = v7 → ∀ y9 : Int32, y9 = x2 + (1 : Int32) → w_X4_bendsLike_26 r0 r1 n y9 M6 Q K) ∧ (¬ v5 = v7 → Q (0 : Int32) M6))))))
set_option maxHeartbeats 4000000 in
set_option maxRecDepth 100000 in
theorem lp_X4_bendsLike_26 {E : EN} {r0 : Nat} {r1 : Nat} {Qf : PST} {Q : Int32 → (Nat → Nat → Int32) → Prop} {K : Int32 → (Nat → Nat → Int32) → Prop} (h0 : isS r0) (h1 : isS r1) (hQ : ∀ x M, Q x M → Qf (some (.int x)) σC 46 M) (hK : ∀ (z2 : Int32) (M : Nat → Nat → Int32), K z2 M → WP E iX4_bendsLike 2 0 0 false 55 [(0, .ref r0), (1, .ref r1)] [] σC 46 M Qf) : ∀ (nn : Nat) (x2 : Int32) (M : Nat → Nat → Int32), w_X4_bendsLike_26 r0 r1 nn x2 M Q K → WP E iX4_bendsLike 2 0 0 false 26 [(0, .ref r0), (1, .ref r1), (2, .int x2)] [] σC 46 M Qf := by
  intro nn
  induction nn with
  | zero => intro x2 M hs; exact hs.elim
  | succ n ih =>
    intro x2 M hs
    unfold w_X4_bendsLike_26 at hs
    refine wp_iload_n 2 dX4_bendsLike_26 rfl ?_
    refine wp_aload_n 0 dX4_bendsLike_27 rfl ?_
    refine wp_get (v := .int (M r0 0)) dX4_bendsLike_28 (σ_isS h0) (lt_isS h0) rfl in_X4_bendsLike_X4 0 (by decide) fl_X4_bendsLike_9 rfl rfl ?_
    refine wp_icmp_gt (tgt := 55) dX4_bendsLike_31 (by decide) (fun c3 => ?_) (fun c3 => ?_)
    · have hs := hs.1 c3
      refine wp_sub (ls' := [(0, .ref r0), (1, .ref r1)]) [0, 1] rfl ?_
      exact hK _ _ hs
    · have hs := hs.2 c3
      refine wp_aload_n 0 dX4_bendsLike_34 rfl ?_
      refine wp_iload_n 2 dX4_bendsLike_35 rfl ?_
      refine wp_cVi (As := [.int x2]) (st := []) (mw_X4_lengthAt h0 hs) gX4_bendsLike_X4_lengthAt rfl hy_X4_lengthAt rfl (σ_isS h0) (lt_isS h0) rfl (by decide) (by decide) (Nat.le_of_ble_eq_true rfl) rfl dX4_bendsLike_36 (fun v5 M4 hs => ?_)
      refine wp_aload_n 1 dX4_bendsLike_39 rfl ?_
      refine wp_iload_n 2 dX4_bendsLike_40 rfl ?_
      refine wp_cVi (As := [.int x2]) (st := [.int v5]) (mw_X4_lengthAt h1 hs) gX4_bendsLike_X4_lengthAt rfl hy_X4_lengthAt rfl (σ_isS h1) (lt_isS h1) rfl (by decide) (by decide) (Nat.le_of_ble_eq_true rfl) rfl dX4_bendsLike_41 (fun v7 M6 hs => ?_)
      refine wp_icmp_eq (tgt := 49) dX4_bendsLike_44 (by decide) (fun c8 => ?_) (fun c8 => ?_)
      · have hs := hs.1 c8
        obtain ⟨y9, ey9⟩ : ∃ y : Int32, y = x2 + (1 : Int32) := ⟨_, rfl⟩
        have hs := hs y9 ey9
        refine wp_iinc (v := y9) (ls' := [(0, .ref r0), (1, .ref r1), (2, .int y9)]) 2 [1, 2, 0] dX4_bendsLike_49 rfl (by rw [ey9]; rfl) rfl (by decide) ?_
        refine wp_goto (tgt := 26) dX4_bendsLike_52 (by decide) ?_
        refine wp_sub (ls' := [(0, .ref r0), (1, .ref r1), (2, .int y9)]) [0, 1, 2] rfl ?_
        exact ih _ _ hs
      · have hs := hs.2 c8
        refine wp_iconst (v := 0) dX4_bendsLike_47 (by decide) ?_
        exact wp_ireturn rfl rfl dX4_bendsLike_48 (hQ _ _ hs)
def w_X4_bendsLike (r0 : Nat) (r1 : Nat) (M : Nat → Nat → Int32) (Q : Int32 → (Nat → Nat → Int32) → Prop) : Prop := ((¬ (M r0 0) = (M r1 0) → Q (0 : Int32) M) ∧ ((M r0 0) = (M r1 0) → (((M r0 1) = (M r1 1) → w_X4_bendsLike_26 r0 r1 FU (0 : Int32) M Q (fun y10 M11 => w_X4_settingAt r0 (0 : Int32) M11 (fun v13 M12 => w_X4_settingAt r1 (0 : Int32) M12 (fun v15 M14 => ((¬ v13 = v15 → Q (0 : Int32) M14) ∧ (v13 = v15 → w_X4_settingAt r0 (1 : Int32) M14 (fun v18 M17 => w_X4_settingAt r1 (1 : Int32) M17 (fun v20 M19 => ((¬ v18 = v20 → Q (0 : Int32) M19) ∧ (v18 = v20 → w_X4_settingAt r0 (2 : Int32) M19 (fun v23 M22 => w_X4_settingAt r1 (2 : Int32) M22 (fun v25 M24 => ((¬ v23 = v25 → Q (0 : Int32) M24) ∧ (v23 = v25 → Q (1 : Int32) M24)))))))))))))) ∧ (¬ (M r0 1) = (M r1 1) → Q (0 : Int32) M))))
set_option maxHeartbeats 4000000 in
set_option maxRecDepth 100000 in
theorem mw_X4_bendsLike {E : EN} {r0 : Nat} {r1 : Nat} {M : Nat → Nat → Int32} {Q : Int32 → (Nat → Nat → Int32) → Prop} (h0 : isS r0) (h1 : isS r1) (hs : w_X4_bendsLike r0 r1 M Q) : MW E iX4_bendsLike 2 0 0 false [.ref r0, .ref r1] σC 46 M (qI σC 46 Q) := by
  refine mw_intro (ls := [(0, .ref r0), (1, .ref r1)]) rfl (by decide +kernel) rfl rfl (Nat.le_of_ble_eq_true rfl) ?_
  have hQ : ∀ x M, Q x M → (qI σC 46 Q) (some (.int x)) σC 46 M := fun _ _ h => ⟨_, rfl, rfl, rfl, h⟩
  generalize (qI σC 46 Q) = Qf at hQ ⊢
  unfold w_X4_bendsLike at hs
  refine wp_aload_n 0 dX4_bendsLike_0 rfl ?_
  refine wp_get (v := .int (M r0 0)) dX4_bendsLike_1 (σ_isS h0) (lt_isS h0) rfl in_X4_bendsLike_X4 0 (by decide) fl_X4_bendsLike_9 rfl rfl ?_
  refine wp_aload_n 1 dX4_bendsLike_4 rfl ?_
  refine wp_get (v := .int (M r1 0)) dX4_bendsLike_5 (σ_isS h1) (lt_isS h1) rfl in_X4_bendsLike_X4 0 (by decide) fl_X4_bendsLike_9 rfl rfl ?_
  refine wp_icmp_ne (tgt := 22) dX4_bendsLike_8 (by decide) (fun c1 => ?_) (fun c1 => ?_)
  · have hs := hs.1 c1
    refine wp_iconst (v := 0) dX4_bendsLike_22 (by decide) ?_
    exact wp_ireturn rfl rfl dX4_bendsLike_23 (hQ _ _ hs)
  · have hs := hs.2 c1
    refine wp_aload_n 0 dX4_bendsLike_11 rfl ?_
    refine wp_get (v := .int (M r0 1)) dX4_bendsLike_12 (σ_isS h0) (lt_isS h0) rfl in_X4_bendsLike_X4 1 (by decide) fl_X4_bendsLike_15 rfl rfl ?_
    refine wp_aload_n 1 dX4_bendsLike_15 rfl ?_
    refine wp_get (v := .int (M r1 1)) dX4_bendsLike_16 (σ_isS h1) (lt_isS h1) rfl in_X4_bendsLike_X4 1 (by decide) fl_X4_bendsLike_15 rfl rfl ?_
    refine wp_icmp_eq (tgt := 24) dX4_bendsLike_19 (by decide) (fun c2 => ?_) (fun c2 => ?_)
    · have hs := hs.1 c2
      refine wp_iconst (v := 0) dX4_bendsLike_24 (by decide) ?_
      refine wp_istore_n (ls' := [(0, .ref r0), (1, .ref r1), (2, .int (0 : Int32))]) [1, 2, 0] dX4_bendsLike_25 rfl (by decide) ?_
      refine wp_sub (ls' := [(0, .ref r0), (1, .ref r1), (2, .int (0 : Int32))]) [0, 1, 2] rfl ?_
      refine lp_X4_bendsLike_26 h0 h1 hQ (K := fun y10 M11 => w_X4_settingAt r0 (0 : Int32) M11 (fun v13 M12 => w_X4_settingAt r1 (0 : Int32) M12 (fun v15 M14 => ((¬ v13 = v15 → Q (0 : Int32) M14) ∧ (v13 = v15 → w_X4_settingAt r0 (1 : Int32) M14 (fun v18 M17 => w_X4_settingAt r1 (1 : Int32) M17 (fun v20 M19 => ((¬ v18 = v20 → Q (0 : Int32) M19) ∧ (v18 = v20 → w_X4_settingAt r0 (2 : Int32) M19 (fun v23 M22 => w_X4_settingAt r1 (2 : Int32) M22 (fun v25 M24 => ((¬ v23 = v25 → Q (0 : Int32) M24) ∧ (v23 = v25 → Q (1 : Int32) M24))))))))))))) (fun y10 M11 hs => ?_) FU _ _ hs
      refine wp_aload_n 0 dX4_bendsLike_55 rfl ?_
      refine wp_iconst (v := 0) dX4_bendsLike_56 (by decide) ?_
      refine wp_cVi (As := [.int (0 : Int32)]) (st := []) (mw_X4_settingAt h0 hs) gX4_bendsLike_X4_settingAt rfl hy_X4_settingAt rfl (σ_isS h0) (lt_isS h0) rfl (by decide) (by decide) (Nat.le_of_ble_eq_true rfl) rfl dX4_bendsLike_57 (fun v13 M12 hs => ?_)
      refine wp_aload_n 1 dX4_bendsLike_60 rfl ?_
      refine wp_iconst (v := 0) dX4_bendsLike_61 (by decide) ?_
      refine wp_cVi (As := [.int (0 : Int32)]) (st := [.int v13]) (mw_X4_settingAt h1 hs) gX4_bendsLike_X4_settingAt rfl hy_X4_settingAt rfl (σ_isS h1) (lt_isS h1) rfl (by decide) (by decide) (Nat.le_of_ble_eq_true rfl) rfl dX4_bendsLike_62 (fun v15 M14 hs => ?_)
      refine wp_icmp_ne (tgt := 98) dX4_bendsLike_65 (by decide) (fun c16 => ?_) (fun c16 => ?_)
      · have hs := hs.1 c16
        refine wp_iconst (v := 0) dX4_bendsLike_98 (by decide) ?_
        exact wp_ireturn rfl rfl dX4_bendsLike_99 (hQ _ _ hs)
      · have hs := hs.2 c16
        refine wp_aload_n 0 dX4_bendsLike_68 rfl ?_
        refine wp_iconst (v := 1) dX4_bendsLike_69 (by decide) ?_
        refine wp_cVi (As := [.int (1 : Int32)]) (st := []) (mw_X4_settingAt h0 hs) gX4_bendsLike_X4_settingAt rfl hy_X4_settingAt rfl (σ_isS h0) (lt_isS h0) rfl (by decide) (by decide) (Nat.le_of_ble_eq_true rfl) rfl dX4_bendsLike_70 (fun v18 M17 hs => ?_)
        refine wp_aload_n 1 dX4_bendsLike_73 rfl ?_
        refine wp_iconst (v := 1) dX4_bendsLike_74 (by decide) ?_
        refine wp_cVi (As := [.int (1 : Int32)]) (st := [.int v18]) (mw_X4_settingAt h1 hs) gX4_bendsLike_X4_settingAt rfl hy_X4_settingAt rfl (σ_isS h1) (lt_isS h1) rfl (by decide) (by decide) (Nat.le_of_ble_eq_true rfl) rfl dX4_bendsLike_75 (fun v20 M19 hs => ?_)
        refine wp_icmp_ne (tgt := 98) dX4_bendsLike_78 (by decide) (fun c21 => ?_) (fun c21 => ?_)
        · have hs := hs.1 c21
          refine wp_iconst (v := 0) dX4_bendsLike_98 (by decide) ?_
          exact wp_ireturn rfl rfl dX4_bendsLike_99 (hQ _ _ hs)
        · have hs := hs.2 c21
          refine wp_aload_n 0 dX4_bendsLike_81 rfl ?_
          refine wp_iconst (v := 2) dX4_bendsLike_82 (by decide) ?_
          refine wp_cVi (As := [.int (2 : Int32)]) (st := []) (mw_X4_settingAt h0 hs) gX4_bendsLike_X4_settingAt rfl hy_X4_settingAt rfl (σ_isS h0) (lt_isS h0) rfl (by decide) (by decide) (Nat.le_of_ble_eq_true rfl) rfl dX4_bendsLike_83 (fun v23 M22 hs => ?_)
          refine wp_aload_n 1 dX4_bendsLike_86 rfl ?_
          refine wp_iconst (v := 2) dX4_bendsLike_87 (by decide) ?_
          refine wp_cVi (As := [.int (2 : Int32)]) (st := [.int v23]) (mw_X4_settingAt h1 hs) gX4_bendsLike_X4_settingAt rfl hy_X4_settingAt rfl (σ_isS h1) (lt_isS h1) rfl (by decide) (by decide) (Nat.le_of_ble_eq_true rfl) rfl dX4_bendsLike_88 (fun v25 M24 hs => ?_)
          refine wp_icmp_ne (tgt := 98) dX4_bendsLike_91 (by decide) (fun c26 => ?_) (fun c26 => ?_)
          · have hs := hs.1 c26
            refine wp_iconst (v := 0) dX4_bendsLike_98 (by decide) ?_
            exact wp_ireturn rfl rfl dX4_bendsLike_99 (hQ _ _ hs)
          · have hs := hs.2 c26
            refine wp_iconst (v := 1) dX4_bendsLike_94 (by decide) ?_
            refine wp_goto (tgt := 99) dX4_bendsLike_95 (by decide) ?_
            exact wp_ireturn rfl rfl dX4_bendsLike_99 (hQ _ _ hs)
    · have hs := hs.2 c2
      refine wp_iconst (v := 0) dX4_bendsLike_22 (by decide) ?_
      exact wp_ireturn rfl rfl dX4_bendsLike_23 (hQ _ _ hs)
abbrev iX4_beginStrip : MI := (cX4_beginStrip, 2, none, RX4, yX4_beginStrip, wsX4_beginStrip)
theorem hy_X4_beginStrip : yX4_beginStrip.cls = RX4 ∧ yX4_beginStrip.cls ≠ "java/lang/invoke/MethodHandle" ∧ yX4_beginStrip.cls ≠ "java/lang/invoke/VarHandle" ∧ (parseMethodDescriptor yX4_beginStrip.desc).map (fun d => d.parameters.length) = some 1 := by decide +kernel
theorem in_X4_beginStrip_X4 : ∀ w ∈ u_ws RX4 TX4 7, w ∈ wsX4_beginStrip := by decide +kernel
theorem fl_X4_beginStrip_9 : Cond.fieldLink RX4 9 (TX4 0).1 (TX4 0).2.1 (TX4 0).2.2.1 ∈ wsX4_beginStrip := by decide +kernel
theorem fl_X4_beginStrip_15 : Cond.fieldLink RX4 15 (TX4 1).1 (TX4 1).2.1 (TX4 1).2.2.1 ∈ wsX4_beginStrip := by decide +kernel
theorem fl_X4_beginStrip_18 : Cond.fieldLink RX4 18 (TX4 2).1 (TX4 2).2.1 (TX4 2).2.2.1 ∈ wsX4_beginStrip := by decide +kernel
theorem fl_X4_beginStrip_21 : Cond.fieldLink RX4 21 (TX4 3).1 (TX4 3).2.1 (TX4 3).2.2.1 ∈ wsX4_beginStrip := by decide +kernel
def w_X4_beginStrip (r0 : Nat) (a : Int32) (M : Nat → Nat → Int32) (Q : (Nat → Nat → Int32) → Prop) : Prop := ∀ y1 : Int32, y1 = (if (7 : Int32) < a then (7 : Int32) else a) → ∀ y2 : Int32, y2 = (if (1 : Int32) < y1 then y1 else (1 : Int32)) → ∀ M3 : Nat → Nat → Int32, M3 = um M r0 (upd (M r0) 0 y2) → ∀ M4 : Nat → Nat → Int32, M4 = um M3 r0 (upd (M3 r0) 1 (0 : Int32)) → ∀ M5 : Nat → Nat → Int32, M5 = um M4 r0 (upd (M4 r0) 2 (0 : Int32)) → ∀ M6 : Nat → Nat → Int32, M6 = um M5 r0 (upd (M5 r0) 3 (0 : Int32)) → Q M6
set_option maxHeartbeats 4000000 in
set_option maxRecDepth 100000 in
theorem mw_X4_beginStrip {E : EN} {r0 : Nat} {a : Int32} {M : Nat → Nat → Int32} {Q : (Nat → Nat → Int32) → Prop} (h0 : isS r0) (hs : w_X4_beginStrip r0 a M Q) : MW E iX4_beginStrip 1 0 0 false [.ref r0, .int a] σC 46 M (qV σC 46 Q) := by
  refine mw_intro (ls := [(0, .ref r0), (1, .int a)]) rfl (by decide +kernel) rfl rfl (Nat.le_of_ble_eq_true rfl) ?_
  have hQ : ∀ M, Q M → (qV σC 46 Q) none σC 46 M := fun _ h => ⟨rfl, rfl, rfl, h⟩
  generalize (qV σC 46 Q) = Qf at hQ ⊢
  unfold w_X4_beginStrip at hs
  refine wp_aload_n 0 dX4_beginStrip_0 rfl ?_
  refine wp_iconst (v := 1) dX4_beginStrip_1 (by decide) ?_
  refine wp_iload_n 1 dX4_beginStrip_2 rfl ?_
  refine wp_bipush (v := 7) dX4_beginStrip_3 (by decide) ?_
  refine wp_mmin (by decide +kernel) (by decide +kernel) (by decide +kernel) (by decide +kernel) (by decide) (Nat.le_of_ble_eq_true rfl) dX4_beginStrip_5 ?_
  refine wp_topi (fun y1 ey1 => ?_)
  have hs := hs y1 ey1
  refine wp_mmax (by decide +kernel) (by decide +kernel) (by decide +kernel) (by decide +kernel) (by decide) (Nat.le_of_ble_eq_true rfl) dX4_beginStrip_8 ?_
  refine wp_topi (fun y2 ey2 => ?_)
  have hs := hs y2 ey2
  refine wp_put (ty := .int) tyX4 tyX4_ok nmX4 (σ_isS h0) (lt_isS h0) rfl in_X4_beginStrip_X4 0 (by decide) fl_X4_beginStrip_9 rfl rfl (by decide +kernel) rfl rfl dX4_beginStrip_11 (fun M3 eM3 => ?_)
  have hs := hs M3 eM3
  refine wp_aload_n 0 dX4_beginStrip_14 rfl ?_
  refine wp_iconst (v := 0) dX4_beginStrip_15 (by decide) ?_
  refine wp_put (ty := .int) tyX4 tyX4_ok nmX4 (σ_isS h0) (lt_isS h0) rfl in_X4_beginStrip_X4 1 (by decide) fl_X4_beginStrip_15 rfl rfl (by decide +kernel) rfl rfl dX4_beginStrip_16 (fun M4 eM4 => ?_)
  have hs := hs M4 eM4
  refine wp_aload_n 0 dX4_beginStrip_19 rfl ?_
  refine wp_iconst (v := 0) dX4_beginStrip_20 (by decide) ?_
  refine wp_put (ty := .int) tyX4 tyX4_ok nmX4 (σ_isS h0) (lt_isS h0) rfl in_X4_beginStrip_X4 2 (by decide) fl_X4_beginStrip_18 rfl rfl (by decide +kernel) rfl rfl dX4_beginStrip_21 (fun M5 eM5 => ?_)
  have hs := hs M5 eM5
  refine wp_aload_n 0 dX4_beginStrip_24 rfl ?_
  refine wp_iconst (v := 0) dX4_beginStrip_25 (by decide) ?_
  refine wp_put (ty := .boolean) tyX4 tyX4_ok nmX4 (σ_isS h0) (lt_isS h0) rfl in_X4_beginStrip_X4 3 (by decide) fl_X4_beginStrip_21 rfl rfl (by decide +kernel) rfl rfl dX4_beginStrip_26 (fun M6 eM6 => ?_)
  have hs := hs M6 eM6
  exact wp_return rfl dX4_beginStrip_29 (hQ _ hs)
abbrev iX4_hasBend : MI := (cX4_hasBend, 2, some .boolean, RX4, yX4_hasBend, wsX4_hasBend)
theorem hy_X4_hasBend : yX4_hasBend.cls = RX4 ∧ yX4_hasBend.cls ≠ "java/lang/invoke/MethodHandle" ∧ yX4_hasBend.cls ≠ "java/lang/invoke/VarHandle" ∧ (parseMethodDescriptor yX4_hasBend.desc).map (fun d => d.parameters.length) = some 1 := by decide +kernel
theorem in_X4_hasBend_X4 : ∀ w ∈ u_ws RX4 TX4 7, w ∈ wsX4_hasBend := by decide +kernel
theorem fl_X4_hasBend_9 : Cond.fieldLink RX4 9 (TX4 0).1 (TX4 0).2.1 (TX4 0).2.2.1 ∈ wsX4_hasBend := by decide +kernel
def w_X4_hasBend (r0 : Nat) (a : Int32) (M : Nat → Nat → Int32) (Q : Int32 → (Nat → Nat → Int32) → Prop) : Prop := ((a < 0 → Q (0 : Int32) M) ∧ (¬ a < 0 → (((M r0 0) ≤ a → Q (0 : Int32) M) ∧ (¬ (M r0 0) ≤ a → Q (1 : Int32) M))))
set_option maxHeartbeats 4000000 in
set_option maxRecDepth 100000 in
theorem mw_X4_hasBend {E : EN} {r0 : Nat} {a : Int32} {M : Nat → Nat → Int32} {Q : Int32 → (Nat → Nat → Int32) → Prop} (h0 : isS r0) (hs : w_X4_hasBend r0 a M Q) : MW E iX4_hasBend 1 0 0 false [.ref r0, .int a] σC 46 M (qI σC 46 Q) := by
  refine mw_intro (ls := [(0, .ref r0), (1, .int a)]) rfl (by decide +kernel) rfl rfl (Nat.le_of_ble_eq_true rfl) ?_
  have hQ : ∀ x M, Q x M → (qI σC 46 Q) (some (.int x)) σC 46 M := fun _ _ h => ⟨_, rfl, rfl, rfl, h⟩
  generalize (qI σC 46 Q) = Qf at hQ ⊢
  unfold w_X4_hasBend at hs
  refine wp_iload_n 1 dX4_hasBend_0 rfl ?_
  refine wp_if_lt (tgt := 16) dX4_hasBend_1 (by decide) (fun c1 => ?_) (fun c1 => ?_)
  · have hs := hs.1 c1
    refine wp_iconst (v := 0) dX4_hasBend_16 (by decide) ?_
    exact wp_ireturn rfl rfl dX4_hasBend_17 (hQ _ _ hs)
  · have hs := hs.2 c1
    refine wp_iload_n 1 dX4_hasBend_4 rfl ?_
    refine wp_aload_n 0 dX4_hasBend_5 rfl ?_
    refine wp_get (v := .int (M r0 0)) dX4_hasBend_6 (σ_isS h0) (lt_isS h0) rfl in_X4_hasBend_X4 0 (by decide) fl_X4_hasBend_9 rfl rfl ?_
    refine wp_icmp_ge (tgt := 16) dX4_hasBend_9 (by decide) (fun c2 => ?_) (fun c2 => ?_)
    · have hs := hs.1 c2
      refine wp_iconst (v := 0) dX4_hasBend_16 (by decide) ?_
      exact wp_ireturn rfl rfl dX4_hasBend_17 (hQ _ _ hs)
    · have hs := hs.2 c2
      refine wp_iconst (v := 1) dX4_hasBend_12 (by decide) ?_
      refine wp_goto (tgt := 17) dX4_hasBend_13 (by decide) ?_
      exact wp_ireturn rfl rfl dX4_hasBend_17 (hQ _ _ hs)
abbrev iX4_hasFlange : MI := (cX4_hasFlange, 2, some .boolean, RX4, yX4_hasFlange, wsX4_hasFlange)
theorem hy_X4_hasFlange : yX4_hasFlange.cls = RX4 ∧ yX4_hasFlange.cls ≠ "java/lang/invoke/MethodHandle" ∧ yX4_hasFlange.cls ≠ "java/lang/invoke/VarHandle" ∧ (parseMethodDescriptor yX4_hasFlange.desc).map (fun d => d.parameters.length) = some 1 := by decide +kernel
theorem in_X4_hasFlange_X4 : ∀ w ∈ u_ws RX4 TX4 7, w ∈ wsX4_hasFlange := by decide +kernel
theorem fl_X4_hasFlange_9 : Cond.fieldLink RX4 9 (TX4 0).1 (TX4 0).2.1 (TX4 0).2.2.1 ∈ wsX4_hasFlange := by decide +kernel
def w_X4_hasFlange (r0 : Nat) (a : Int32) (M : Nat → Nat → Int32) (Q : Int32 → (Nat → Nat → Int32) → Prop) : Prop := ((a < 0 → Q (0 : Int32) M) ∧ (¬ a < 0 → (((M r0 0) < a → Q (0 : Int32) M) ∧ (¬ (M r0 0) < a → Q (1 : Int32) M))))
set_option maxHeartbeats 4000000 in
set_option maxRecDepth 100000 in
theorem mw_X4_hasFlange {E : EN} {r0 : Nat} {a : Int32} {M : Nat → Nat → Int32} {Q : Int32 → (Nat → Nat → Int32) → Prop} (h0 : isS r0) (hs : w_X4_hasFlange r0 a M Q) : MW E iX4_hasFlange 1 0 0 false [.ref r0, .int a] σC 46 M (qI σC 46 Q) := by
  refine mw_intro (ls := [(0, .ref r0), (1, .int a)]) rfl (by decide +kernel) rfl rfl (Nat.le_of_ble_eq_true rfl) ?_
  have hQ : ∀ x M, Q x M → (qI σC 46 Q) (some (.int x)) σC 46 M := fun _ _ h => ⟨_, rfl, rfl, rfl, h⟩
  generalize (qI σC 46 Q) = Qf at hQ ⊢
  unfold w_X4_hasFlange at hs
  refine wp_iload_n 1 dX4_hasFlange_0 rfl ?_
  refine wp_if_lt (tgt := 16) dX4_hasFlange_1 (by decide) (fun c1 => ?_) (fun c1 => ?_)
  · have hs := hs.1 c1
    refine wp_iconst (v := 0) dX4_hasFlange_16 (by decide) ?_
    exact wp_ireturn rfl rfl dX4_hasFlange_17 (hQ _ _ hs)
  · have hs := hs.2 c1
    refine wp_iload_n 1 dX4_hasFlange_4 rfl ?_
    refine wp_aload_n 0 dX4_hasFlange_5 rfl ?_
    refine wp_get (v := .int (M r0 0)) dX4_hasFlange_6 (σ_isS h0) (lt_isS h0) rfl in_X4_hasFlange_X4 0 (by decide) fl_X4_hasFlange_9 rfl rfl ?_
    refine wp_icmp_gt (tgt := 16) dX4_hasFlange_9 (by decide) (fun c2 => ?_) (fun c2 => ?_)
    · have hs := hs.1 c2
      refine wp_iconst (v := 0) dX4_hasFlange_16 (by decide) ?_
      exact wp_ireturn rfl rfl dX4_hasFlange_17 (hQ _ _ hs)
    · have hs := hs.2 c2
      refine wp_iconst (v := 1) dX4_hasFlange_12 (by decide) ?_
      refine wp_goto (tgt := 17) dX4_hasFlange_13 (by decide) ?_
      exact wp_ireturn rfl rfl dX4_hasFlange_17 (hQ _ _ hs)
abbrev iX4_isDone : MI := (cX4_isDone, 2, some .boolean, RX4, yX4_isDone, wsX4_isDone)
theorem hy_X4_isDone : yX4_isDone.cls = RX4 ∧ yX4_isDone.cls ≠ "java/lang/invoke/MethodHandle" ∧ yX4_isDone.cls ≠ "java/lang/invoke/VarHandle" ∧ (parseMethodDescriptor yX4_isDone.desc).map (fun d => d.parameters.length) = some 1 := by decide +kernel
theorem in_X4_isDone_X4 : ∀ w ∈ u_ws RX4 TX4 7, w ∈ wsX4_isDone := by decide +kernel
theorem fl_X4_isDone_18 : Cond.fieldLink RX4 18 (TX4 2).1 (TX4 2).2.1 (TX4 2).2.2.1 ∈ wsX4_isDone := by decide +kernel
def w_X4_isDone (r0 : Nat) (a : Int32) (M : Nat → Nat → Int32) (Q : Int32 → (Nat → Nat → Int32) → Prop) : Prop := ((¬ (((M r0 2) >>> (a &&& 31)) &&& (1 : Int32)) = (1 : Int32) → Q (0 : Int32) M) ∧ ((((M r0 2) >>> (a &&& 31)) &&& (1 : Int32)) = (1 : Int32) → Q (1 : Int32) M))
set_option maxHeartbeats 4000000 in
set_option maxRecDepth 100000 in
theorem mw_X4_isDone {E : EN} {r0 : Nat} {a : Int32} {M : Nat → Nat → Int32} {Q : Int32 → (Nat → Nat → Int32) → Prop} (h0 : isS r0) (hs : w_X4_isDone r0 a M Q) : MW E iX4_isDone 1 0 0 false [.ref r0, .int a] σC 46 M (qI σC 46 Q) := by
  refine mw_intro (ls := [(0, .ref r0), (1, .int a)]) rfl (by decide +kernel) rfl rfl (Nat.le_of_ble_eq_true rfl) ?_
  have hQ : ∀ x M, Q x M → (qI σC 46 Q) (some (.int x)) σC 46 M := fun _ _ h => ⟨_, rfl, rfl, rfl, h⟩
  generalize (qI σC 46 Q) = Qf at hQ ⊢
  unfold w_X4_isDone at hs
  refine wp_aload_n 0 dX4_isDone_0 rfl ?_
  refine wp_get (v := .int (M r0 2)) dX4_isDone_1 (σ_isS h0) (lt_isS h0) rfl in_X4_isDone_X4 2 (by decide) fl_X4_isDone_18 rfl rfl ?_
  refine wp_iload_n 1 dX4_isDone_4 rfl ?_
  refine wp_ishr dX4_isDone_5 ?_
  refine wp_iconst (v := 1) dX4_isDone_6 (by decide) ?_
  refine wp_iand dX4_isDone_7 ?_
  refine wp_iconst (v := 1) dX4_isDone_8 (by decide) ?_
  refine wp_icmp_ne (tgt := 16) dX4_isDone_9 (by decide) (fun c1 => ?_) (fun c1 => ?_)
  · have hs := hs.1 c1
    refine wp_iconst (v := 0) dX4_isDone_16 (by decide) ?_
    exact wp_ireturn rfl rfl dX4_isDone_17 (hQ _ _ hs)
  · have hs := hs.2 c1
    refine wp_iconst (v := 1) dX4_isDone_12 (by decide) ?_
    refine wp_goto (tgt := 17) dX4_isDone_13 (by decide) ?_
    exact wp_ireturn rfl rfl dX4_isDone_17 (hQ _ _ hs)
abbrev iX4_putUp : MI := (cX4_putUp, 3, none, RX4, yX4_putUp, wsX4_putUp)
theorem hy_X4_putUp : yX4_putUp.cls = RX4 ∧ yX4_putUp.cls ≠ "java/lang/invoke/MethodHandle" ∧ yX4_putUp.cls ≠ "java/lang/invoke/VarHandle" ∧ (parseMethodDescriptor yX4_putUp.desc).map (fun d => d.parameters.length) = some 2 := by decide +kernel
theorem in_X4_putUp_X4 : ∀ w ∈ u_ws RX4 TX4 7, w ∈ wsX4_putUp := by decide +kernel
theorem fl_X4_putUp_15 : Cond.fieldLink RX4 15 (TX4 1).1 (TX4 1).2.1 (TX4 1).2.2.1 ∈ wsX4_putUp := by decide +kernel
def w_X4_putUp (r0 : Nat) (a : Int32) (b : Int32) (M : Nat → Nat → Int32) (Q : (Nat → Nat → Int32) → Prop) : Prop := ((b = 0 → ∀ M2 : Nat → Nat → Int32, M2 = um M r0 (upd (M r0) 1 ((M r0 1) &&& (((1 : Int32) <<< (a &&& 31)) ^^^ (-1 : Int32)))) → Q M2) ∧ (¬ b = 0 → ∀ M3 : Nat → Nat → Int32, M3 = um M r0 (upd (M r0) 1 ((M r0 1) ||| ((1 : Int32) <<< (a &&& 31)))) → Q M3))
set_option maxHeartbeats 4000000 in
set_option maxRecDepth 100000 in
theorem mw_X4_putUp {E : EN} {r0 : Nat} {a : Int32} {b : Int32} {M : Nat → Nat → Int32} {Q : (Nat → Nat → Int32) → Prop} (h0 : isS r0) (hs : w_X4_putUp r0 a b M Q) : MW E iX4_putUp 1 0 0 false [.ref r0, .int a, .int b] σC 46 M (qV σC 46 Q) := by
  refine mw_intro (ls := [(0, .ref r0), (1, .int a), (2, .int b)]) rfl (by decide +kernel) rfl rfl (Nat.le_of_ble_eq_true rfl) ?_
  have hQ : ∀ M, Q M → (qV σC 46 Q) none σC 46 M := fun _ h => ⟨rfl, rfl, rfl, h⟩
  generalize (qV σC 46 Q) = Qf at hQ ⊢
  unfold w_X4_putUp at hs
  refine wp_aload_n 0 dX4_putUp_0 rfl ?_
  refine wp_iload_n 2 dX4_putUp_1 rfl ?_
  refine wp_if_eq (tgt := 16) dX4_putUp_2 (by decide) (fun c1 => ?_) (fun c1 => ?_)
  · have hs := hs.1 c1
    refine wp_aload_n 0 dX4_putUp_16 rfl ?_
    refine wp_get (v := .int (M r0 1)) dX4_putUp_17 (σ_isS h0) (lt_isS h0) rfl in_X4_putUp_X4 1 (by decide) fl_X4_putUp_15 rfl rfl ?_
    refine wp_iconst (v := 1) dX4_putUp_20 (by decide) ?_
    refine wp_iload_n 1 dX4_putUp_21 rfl ?_
    refine wp_ishl dX4_putUp_22 ?_
    refine wp_iconst (v := -1) dX4_putUp_23 (by decide) ?_
    refine wp_ixor dX4_putUp_24 ?_
    refine wp_iand dX4_putUp_25 ?_
    refine wp_put (ty := .int) tyX4 tyX4_ok nmX4 (σ_isS h0) (lt_isS h0) rfl in_X4_putUp_X4 1 (by decide) fl_X4_putUp_15 rfl rfl (by decide +kernel) rfl rfl dX4_putUp_26 (fun M2 eM2 => ?_)
    have hs := hs M2 eM2
    exact wp_return rfl dX4_putUp_29 (hQ _ hs)
  · have hs := hs.2 c1
    refine wp_aload_n 0 dX4_putUp_5 rfl ?_
    refine wp_get (v := .int (M r0 1)) dX4_putUp_6 (σ_isS h0) (lt_isS h0) rfl in_X4_putUp_X4 1 (by decide) fl_X4_putUp_15 rfl rfl ?_
    refine wp_iconst (v := 1) dX4_putUp_9 (by decide) ?_
    refine wp_iload_n 1 dX4_putUp_10 rfl ?_
    refine wp_ishl dX4_putUp_11 ?_
    refine wp_ior dX4_putUp_12 ?_
    refine wp_goto (tgt := 26) dX4_putUp_13 (by decide) ?_
    refine wp_put (ty := .int) tyX4 tyX4_ok nmX4 (σ_isS h0) (lt_isS h0) rfl in_X4_putUp_X4 1 (by decide) fl_X4_putUp_15 rfl rfl (by decide +kernel) rfl rfl dX4_putUp_26 (fun M3 eM3 => ?_)
    have hs := hs M3 eM3
    exact wp_return rfl dX4_putUp_29 (hQ _ hs)
abbrev iX4_doBend : MI := (cX4_doBend, 2, none, RX4, yX4_doBend, wsX4_doBend)
theorem hy_X4_doBend : yX4_doBend.cls = RX4 ∧ yX4_doBend.cls ≠ "java/lang/invoke/MethodHandle" ∧ yX4_doBend.cls ≠ "java/lang/invoke/VarHandle" ∧ (parseMethodDescriptor yX4_doBend.desc).map (fun d => d.parameters.length) = some 1 := by decide +kernel
theorem in_X4_doBend_X4 : ∀ w ∈ u_ws RX4 TX4 7, w ∈ wsX4_doBend := by decide +kernel
theorem fl_X4_doBend_18 : Cond.fieldLink RX4 18 (TX4 2).1 (TX4 2).2.1 (TX4 2).2.2.1 ∈ wsX4_doBend := by decide +kernel
theorem fl_X4_doBend_25 : Cond.fieldLink RX4 25 (TX4 4).1 (TX4 4).2.1 (TX4 4).2.2.1 ∈ wsX4_doBend := by decide +kernel
def w_X4_doBend (r0 : Nat) (a : Int32) (M : Nat → Nat → Int32) (Q : (Nat → Nat → Int32) → Prop) : Prop := ∀ M1 : Nat → Nat → Int32, M1 = um M r0 (upd (M r0) 2 ((M r0 2) ||| ((1 : Int32) <<< (a &&& 31)))) → ∀ M2 : Nat → Nat → Int32, M2 = um M1 r0 (upd (M1 r0) 4 ((M1 r0 4) + (1 : Int32))) → Q M2
set_option maxHeartbeats 4000000 in
set_option maxRecDepth 100000 in
theorem mw_X4_doBend {E : EN} {r0 : Nat} {a : Int32} {M : Nat → Nat → Int32} {Q : (Nat → Nat → Int32) → Prop} (h0 : isS r0) (hs : w_X4_doBend r0 a M Q) : MW E iX4_doBend 1 0 0 false [.ref r0, .int a] σC 46 M (qV σC 46 Q) := by
  refine mw_intro (ls := [(0, .ref r0), (1, .int a)]) rfl (by decide +kernel) rfl rfl (Nat.le_of_ble_eq_true rfl) ?_
  have hQ : ∀ M, Q M → (qV σC 46 Q) none σC 46 M := fun _ h => ⟨rfl, rfl, rfl, h⟩
  generalize (qV σC 46 Q) = Qf at hQ ⊢
  unfold w_X4_doBend at hs
  refine wp_aload_n 0 dX4_doBend_0 rfl ?_
  refine wp_dup rfl dX4_doBend_1 ?_
  refine wp_get (v := .int (M r0 2)) dX4_doBend_2 (σ_isS h0) (lt_isS h0) rfl in_X4_doBend_X4 2 (by decide) fl_X4_doBend_18 rfl rfl ?_
  refine wp_iconst (v := 1) dX4_doBend_5 (by decide) ?_
  refine wp_iload_n 1 dX4_doBend_6 rfl ?_
  refine wp_ishl dX4_doBend_7 ?_
  refine wp_ior dX4_doBend_8 ?_
  refine wp_put (ty := .int) tyX4 tyX4_ok nmX4 (σ_isS h0) (lt_isS h0) rfl in_X4_doBend_X4 2 (by decide) fl_X4_doBend_18 rfl rfl (by decide +kernel) rfl rfl dX4_doBend_9 (fun M1 eM1 => ?_)
  have hs := hs M1 eM1
  refine wp_aload_n 0 dX4_doBend_12 rfl ?_
  refine wp_dup rfl dX4_doBend_13 ?_
  refine wp_get (v := .int (M1 r0 4)) dX4_doBend_14 (σ_isS h0) (lt_isS h0) rfl in_X4_doBend_X4 4 (by decide) fl_X4_doBend_25 rfl rfl ?_
  refine wp_iconst (v := 1) dX4_doBend_17 (by decide) ?_
  refine wp_iadd dX4_doBend_18 ?_
  refine wp_put (ty := .int) tyX4 tyX4_ok nmX4 (σ_isS h0) (lt_isS h0) rfl in_X4_doBend_X4 4 (by decide) fl_X4_doBend_25 rfl rfl (by decide +kernel) rfl rfl dX4_doBend_19 (fun M2 eM2 => ?_)
  have hs := hs M2 eM2
  exact wp_return rfl dX4_doBend_22 (hQ _ hs)
abbrev iJ6_bitCount_0f7a4 : MI := (cJ6_bitCount_0f7a4, 1, some .int, RJ6, yJ6_bitCount_0f7a4, wsJ6_bitCount_0f7a4)
theorem hy_J6_bitCount_0f7a4 : yJ6_bitCount_0f7a4.cls ≠ "java/lang/invoke/MethodHandle" ∧ yJ6_bitCount_0f7a4.cls ≠ "java/lang/invoke/VarHandle" ∧ (parseMethodDescriptor yJ6_bitCount_0f7a4.desc).map (fun d => d.parameters.length) = some 1 := by decide +kernel
def w_J6_bitCount_0f7a4 (a : Int32) (M : Nat → Nat → Int32) (Q : Int32 → (Nat → Nat → Int32) → Prop) : Prop := ∀ y1 : Int32, y1 = (((a).toUInt32 >>> (((1 : Int32)).toUInt32 &&& Int32.toUInt32 31)).toInt32 &&& (1431655765 : Int32)) → ∀ y2 : Int32, y2 = (a - y1) → ∀ y3 : Int32, y3 = (((y2).toUInt32 >>> (((2 : Int32)).toUInt32 &&& Int32.toUInt32 31)).toInt32 &&& (858993459 : Int32)) → ∀ y4 : Int32, y4 = ((y2 &&& (858993459 : Int32)) + y3) → ∀ y5 : Int32, y5 = ((y4 + ((y4).toUInt32 >>> (((4 : Int32)).toUInt32 &&& Int32.toUInt32 31)).toInt32) &&& (252645135 : Int32)) → ∀ y6 : Int32, y6 = (y5 + ((y5).toUInt32 >>> (((8 : Int32)).toUInt32 &&& Int32.toUInt32 31)).toInt32) → ∀ y7 : Int32, y7 = (y6 + ((y6).toUInt32 >>> (((16 : Int32)).toUInt32 &&& Int32.toUInt32 31)).toInt32) → Q (y7 &&& (63 : Int32)) M
set_option maxHeartbeats 4000000 in
set_option maxRecDepth 100000 in
theorem mw_J6_bitCount_0f7a4 {E : EN} {σ : Nat → KD} {N : Nat} {a : Int32} {M : Nat → Nat → Int32} {Q : Int32 → (Nat → Nat → Int32) → Prop} (hs : w_J6_bitCount_0f7a4 a M Q) : MW E iJ6_bitCount_0f7a4 1 0 0 false [.int a] σ N M (qI σ N Q) := by
  refine mw_intro (ls := [(0, .int a)]) rfl (by decide +kernel) rfl rfl (Nat.le_of_ble_eq_true rfl) ?_
  have hQ : ∀ x M, Q x M → (qI σ N Q) (some (.int x)) σ N M := fun _ _ h => ⟨_, rfl, rfl, rfl, h⟩
  generalize (qI σ N Q) = Qf at hQ ⊢
  unfold w_J6_bitCount_0f7a4 at hs
  refine wp_iload_n 0 dJ6_bitCount_0f7a4_0 rfl ?_
  refine wp_iload_n 0 dJ6_bitCount_0f7a4_1 rfl ?_
  refine wp_iconst (v := 1) dJ6_bitCount_0f7a4_2 (by decide) ?_
  refine wp_iushr dJ6_bitCount_0f7a4_3 rfl ?_
  refine wp_ldcw (v := 1431655765) (by decide +kernel) dJ6_bitCount_0f7a4_4 ?_
  refine wp_iand dJ6_bitCount_0f7a4_7 ?_
  refine wp_topi (fun y1 ey1 => ?_)
  have hs := hs y1 ey1
  refine wp_isub dJ6_bitCount_0f7a4_8 ?_
  refine wp_topi (fun y2 ey2 => ?_)
  have hs := hs y2 ey2
  refine wp_istore_n (ls' := [(0, .int y2)]) [0] dJ6_bitCount_0f7a4_9 rfl (by decide) ?_
  refine wp_iload_n 0 dJ6_bitCount_0f7a4_10 rfl ?_
  refine wp_ldcw (v := 858993459) (by decide +kernel) dJ6_bitCount_0f7a4_11 ?_
  refine wp_iand dJ6_bitCount_0f7a4_14 ?_
  refine wp_iload_n 0 dJ6_bitCount_0f7a4_15 rfl ?_
  refine wp_iconst (v := 2) dJ6_bitCount_0f7a4_16 (by decide) ?_
  refine wp_iushr dJ6_bitCount_0f7a4_17 rfl ?_
  refine wp_ldcw (v := 858993459) (by decide +kernel) dJ6_bitCount_0f7a4_18 ?_
  refine wp_iand dJ6_bitCount_0f7a4_21 ?_
  refine wp_topi (fun y3 ey3 => ?_)
  have hs := hs y3 ey3
  refine wp_iadd dJ6_bitCount_0f7a4_22 ?_
  refine wp_topi (fun y4 ey4 => ?_)
  have hs := hs y4 ey4
  refine wp_istore_n (ls' := [(0, .int y4)]) [0] dJ6_bitCount_0f7a4_23 rfl (by decide) ?_
  refine wp_iload_n 0 dJ6_bitCount_0f7a4_24 rfl ?_
  refine wp_iload_n 0 dJ6_bitCount_0f7a4_25 rfl ?_
  refine wp_iconst (v := 4) dJ6_bitCount_0f7a4_26 (by decide) ?_
  refine wp_iushr dJ6_bitCount_0f7a4_27 rfl ?_
  refine wp_iadd dJ6_bitCount_0f7a4_28 ?_
  refine wp_ldcw (v := 252645135) (by decide +kernel) dJ6_bitCount_0f7a4_29 ?_
  refine wp_iand dJ6_bitCount_0f7a4_32 ?_
  refine wp_topi (fun y5 ey5 => ?_)
  have hs := hs y5 ey5
  refine wp_istore_n (ls' := [(0, .int y5)]) [0] dJ6_bitCount_0f7a4_33 rfl (by decide) ?_
  refine wp_iload_n 0 dJ6_bitCount_0f7a4_34 rfl ?_
  refine wp_iload_n 0 dJ6_bitCount_0f7a4_35 rfl ?_
  refine wp_bipush (v := 8) dJ6_bitCount_0f7a4_36 (by decide) ?_
  refine wp_iushr dJ6_bitCount_0f7a4_38 rfl ?_
  refine wp_iadd dJ6_bitCount_0f7a4_39 ?_
  refine wp_topi (fun y6 ey6 => ?_)
  have hs := hs y6 ey6
  refine wp_istore_n (ls' := [(0, .int y6)]) [0] dJ6_bitCount_0f7a4_40 rfl (by decide) ?_
  refine wp_iload_n 0 dJ6_bitCount_0f7a4_41 rfl ?_
  refine wp_iload_n 0 dJ6_bitCount_0f7a4_42 rfl ?_
  refine wp_bipush (v := 16) dJ6_bitCount_0f7a4_43 (by decide) ?_
  refine wp_iushr dJ6_bitCount_0f7a4_45 rfl ?_
  refine wp_iadd dJ6_bitCount_0f7a4_46 ?_
  refine wp_topi (fun y7 ey7 => ?_)
  have hs := hs y7 ey7
  refine wp_istore_n (ls' := [(0, .int y7)]) [0] dJ6_bitCount_0f7a4_47 rfl (by decide) ?_
  refine wp_iload_n 0 dJ6_bitCount_0f7a4_48 rfl ?_
  refine wp_bipush (v := 63) dJ6_bitCount_0f7a4_49 (by decide) ?_
  refine wp_iand dJ6_bitCount_0f7a4_51 ?_
  exact wp_ireturn rfl rfl dJ6_bitCount_0f7a4_52 (hQ _ _ hs)
abbrev iX4_doneBends : MI := (cX4_doneBends, 1, some .int, RX4, yX4_doneBends, wsX4_doneBends)
theorem hy_X4_doneBends : yX4_doneBends.cls = RX4 ∧ yX4_doneBends.cls ≠ "java/lang/invoke/MethodHandle" ∧ yX4_doneBends.cls ≠ "java/lang/invoke/VarHandle" ∧ (parseMethodDescriptor yX4_doneBends.desc).map (fun d => d.parameters.length) = some 0 := by decide +kernel
theorem in_X4_doneBends_X4 : ∀ w ∈ u_ws RX4 TX4 7, w ∈ wsX4_doneBends := by decide +kernel
theorem fl_X4_doneBends_18 : Cond.fieldLink RX4 18 (TX4 2).1 (TX4 2).2.1 (TX4 2).2.2.1 ∈ wsX4_doneBends := by decide +kernel
def w_X4_doneBends (r0 : Nat) (M : Nat → Nat → Int32) (Q : Int32 → (Nat → Nat → Int32) → Prop) : Prop := w_J6_bitCount_0f7a4 (M r0 2) M (fun v2 M1 => Q v2 M1)
set_option maxHeartbeats 4000000 in
set_option maxRecDepth 100000 in
theorem mw_X4_doneBends {E : EN} {r0 : Nat} {M : Nat → Nat → Int32} {Q : Int32 → (Nat → Nat → Int32) → Prop} (h0 : isS r0) (hs : w_X4_doneBends r0 M Q) : MW E iX4_doneBends 2 0 0 false [.ref r0] σC 46 M (qI σC 46 Q) := by
  refine mw_intro (ls := [(0, .ref r0)]) rfl (by decide +kernel) rfl rfl (Nat.le_of_ble_eq_true rfl) ?_
  have hQ : ∀ x M, Q x M → (qI σC 46 Q) (some (.int x)) σC 46 M := fun _ _ h => ⟨_, rfl, rfl, rfl, h⟩
  generalize (qI σC 46 Q) = Qf at hQ ⊢
  unfold w_X4_doneBends at hs
  refine wp_aload_n 0 dX4_doneBends_0 rfl ?_
  refine wp_get (v := .int (M r0 2)) dX4_doneBends_1 (σ_isS h0) (lt_isS h0) rfl in_X4_doneBends_X4 2 (by decide) fl_X4_doneBends_18 rfl rfl ?_
  refine wp_cSi (As := [.int (M r0 2)]) (st := []) (mw_J6_bitCount_0f7a4  hs) gX4_doneBends_J6_bitCount_0f7a4 rfl hy_J6_bitCount_0f7a4 rfl (by decide) (by decide) (Nat.le_of_ble_eq_true rfl) rfl dX4_doneBends_4 (fun v2 M1 hs => ?_)
  exact wp_ireturn rfl rfl dX4_doneBends_7 (hQ _ _ hs)
abbrev iX4_openBends : MI := (cX4_openBends, 1, some .int, RX4, yX4_openBends, wsX4_openBends)
theorem hy_X4_openBends : yX4_openBends.cls = RX4 ∧ yX4_openBends.cls ≠ "java/lang/invoke/MethodHandle" ∧ yX4_openBends.cls ≠ "java/lang/invoke/VarHandle" ∧ (parseMethodDescriptor yX4_openBends.desc).map (fun d => d.parameters.length) = some 0 := by decide +kernel
theorem in_X4_openBends_X4 : ∀ w ∈ u_ws RX4 TX4 7, w ∈ wsX4_openBends := by decide +kernel
theorem fl_X4_openBends_9 : Cond.fieldLink RX4 9 (TX4 0).1 (TX4 0).2.1 (TX4 0).2.2.1 ∈ wsX4_openBends := by decide +kernel
def w_X4_openBends (r0 : Nat) (M : Nat → Nat → Int32) (Q : Int32 → (Nat → Nat → Int32) → Prop) : Prop := w_X4_doneBends r0 M (fun v2 M1 => Q ((M r0 0) - v2) M1)
set_option maxHeartbeats 4000000 in
set_option maxRecDepth 100000 in
theorem mw_X4_openBends {E : EN} {r0 : Nat} {M : Nat → Nat → Int32} {Q : Int32 → (Nat → Nat → Int32) → Prop} (h0 : isS r0) (hs : w_X4_openBends r0 M Q) : MW E iX4_openBends 3 0 0 false [.ref r0] σC 46 M (qI σC 46 Q) := by
  refine mw_intro (ls := [(0, .ref r0)]) rfl (by decide +kernel) rfl rfl (Nat.le_of_ble_eq_true rfl) ?_
  have hQ : ∀ x M, Q x M → (qI σC 46 Q) (some (.int x)) σC 46 M := fun _ _ h => ⟨_, rfl, rfl, rfl, h⟩
  generalize (qI σC 46 Q) = Qf at hQ ⊢
  unfold w_X4_openBends at hs
  refine wp_aload_n 0 dX4_openBends_0 rfl ?_
  refine wp_get (v := .int (M r0 0)) dX4_openBends_1 (σ_isS h0) (lt_isS h0) rfl in_X4_openBends_X4 0 (by decide) fl_X4_openBends_9 rfl rfl ?_
  refine wp_aload_n 0 dX4_openBends_4 rfl ?_
  refine wp_cVi (As := []) (st := [.int (M r0 0)]) (mw_X4_doneBends h0 hs) gX4_openBends_X4_doneBends rfl hy_X4_doneBends rfl (σ_isS h0) (lt_isS h0) rfl (by decide) (by decide) (Nat.le_of_ble_eq_true rfl) rfl dX4_openBends_5 (fun v2 M1 hs => ?_)
  refine wp_isub dX4_openBends_8 ?_
  exact wp_ireturn rfl rfl dX4_openBends_9 (hQ _ _ hs)
abbrev iX4_putLength : MI := (cX4_putLength, 3, none, RX4, yX4_putLength, wsX4_putLength)
theorem hy_X4_putLength : yX4_putLength.cls = RX4 ∧ yX4_putLength.cls ≠ "java/lang/invoke/MethodHandle" ∧ yX4_putLength.cls ≠ "java/lang/invoke/VarHandle" ∧ (parseMethodDescriptor yX4_putLength.desc).map (fun d => d.parameters.length) = some 2 := by decide +kernel
theorem in_X4_putLength_X4 : ∀ w ∈ u_ws RX4 TX4 7, w ∈ wsX4_putLength := by decide +kernel
theorem fl_X4_putLength_28 : Cond.fieldLink RX4 28 (TX4 5).1 (TX4 5).2.1 (TX4 5).2.2.1 ∈ wsX4_putLength := by decide +kernel
def w_X4_putLength (r0 : Nat) (a : Int32) (b : Int32) (M : Nat → Nat → Int32) (Q : (Nat → Nat → Int32) → Prop) : Prop := ((a < 0 → Q M) ∧ (¬ a < 0 → (((8 : Int32) ≤ a → Q M) ∧ (¬ (8 : Int32) ≤ a → (vp_in a 8 ∧ ∀ M3 : Nat → Nat → Int32, M3 = um M (r0 + 1) (upd (M (r0 + 1)) a.toNatClampNeg b) → Q M3)))))
set_option maxHeartbeats 4000000 in
set_option maxRecDepth 100000 in
theorem mw_X4_putLength {E : EN} {r0 : Nat} {a : Int32} {b : Int32} {M : Nat → Nat → Int32} {Q : (Nat → Nat → Int32) → Prop} (h0 : isS r0) (hs : w_X4_putLength r0 a b M Q) : MW E iX4_putLength 1 0 0 false [.ref r0, .int a, .int b] σC 46 M (qV σC 46 Q) := by
  refine mw_intro (ls := [(0, .ref r0), (1, .int a), (2, .int b)]) rfl (by decide +kernel) rfl rfl (Nat.le_of_ble_eq_true rfl) ?_
  have hQ : ∀ M, Q M → (qV σC 46 Q) none σC 46 M := fun _ h => ⟨rfl, rfl, rfl, h⟩
  generalize (qV σC 46 Q) = Qf at hQ ⊢
  unfold w_X4_putLength at hs
  refine wp_iload_n 1 dX4_putLength_0 rfl ?_
  refine wp_if_lt (tgt := 20) dX4_putLength_1 (by decide) (fun c1 => ?_) (fun c1 => ?_)
  · have hs := hs.1 c1
    exact wp_return rfl dX4_putLength_20 (hQ _ hs)
  · have hs := hs.2 c1
    refine wp_iload_n 1 dX4_putLength_4 rfl ?_
    refine wp_aload_n 0 dX4_putLength_5 rfl ?_
    refine wp_get (v := .ref (r0 + 1)) dX4_putLength_6 (σ_isS h0) (lt_isS h0) rfl in_X4_putLength_X4 5 (by decide) fl_X4_putLength_28 rfl rfl ?_
    refine wp_alen (v := 8) (σ_isS1 h0) (lt_isS1 h0) (by decide) (by decide) dX4_putLength_9 ?_
    refine wp_icmp_ge (tgt := 20) dX4_putLength_10 (by decide) (fun c2 => ?_) (fun c2 => ?_)
    · have hs := hs.1 c2
      exact wp_return rfl dX4_putLength_20 (hQ _ hs)
    · have hs := hs.2 c2
      refine wp_aload_n 0 dX4_putLength_13 rfl ?_
      refine wp_get (v := .ref (r0 + 1)) dX4_putLength_14 (σ_isS h0) (lt_isS h0) rfl in_X4_putLength_X4 5 (by decide) fl_X4_putLength_28 rfl rfl ?_
      refine wp_iload_n 1 dX4_putLength_17 rfl ?_
      refine wp_iload_n 2 dX4_putLength_18 rfl ?_
      have hv := hs.1
      have hs := hs.2
      refine wp_iast (σ_isS1 h0) (lt_isS1 h0) hv dX4_putLength_19 (fun M3 eM3 => ?_)
      have hs := hs M3 eM3
      exact wp_return rfl dX4_putLength_20 (hQ _ hs)
abbrev iX4_putSetting : MI := (cX4_putSetting, 3, none, RX4, yX4_putSetting, wsX4_putSetting)
theorem hy_X4_putSetting : yX4_putSetting.cls = RX4 ∧ yX4_putSetting.cls ≠ "java/lang/invoke/MethodHandle" ∧ yX4_putSetting.cls ≠ "java/lang/invoke/VarHandle" ∧ (parseMethodDescriptor yX4_putSetting.desc).map (fun d => d.parameters.length) = some 2 := by decide +kernel
theorem in_X4_putSetting_X4 : ∀ w ∈ u_ws RX4 TX4 7, w ∈ wsX4_putSetting := by decide +kernel
theorem fl_X4_putSetting_35 : Cond.fieldLink RX4 35 (TX4 6).1 (TX4 6).2.1 (TX4 6).2.2.1 ∈ wsX4_putSetting := by decide +kernel
def w_X4_putSetting (r0 : Nat) (a : Int32) (b : Int32) (M : Nat → Nat → Int32) (Q : (Nat → Nat → Int32) → Prop) : Prop := ((a < 0 → Q M) ∧ (¬ a < 0 → (((4 : Int32) ≤ a → Q M) ∧ (¬ (4 : Int32) ≤ a → (vp_in a 4 ∧ ∀ M3 : Nat → Nat → Int32, M3 = um M (r0 + 2) (upd (M (r0 + 2)) a.toNatClampNeg b) → Q M3)))))
set_option maxHeartbeats 4000000 in
set_option maxRecDepth 100000 in
theorem mw_X4_putSetting {E : EN} {r0 : Nat} {a : Int32} {b : Int32} {M : Nat → Nat → Int32} {Q : (Nat → Nat → Int32) → Prop} (h0 : isS r0) (hs : w_X4_putSetting r0 a b M Q) : MW E iX4_putSetting 1 0 0 false [.ref r0, .int a, .int b] σC 46 M (qV σC 46 Q) := by
  refine mw_intro (ls := [(0, .ref r0), (1, .int a), (2, .int b)]) rfl (by decide +kernel) rfl rfl (Nat.le_of_ble_eq_true rfl) ?_
  have hQ : ∀ M, Q M → (qV σC 46 Q) none σC 46 M := fun _ h => ⟨rfl, rfl, rfl, h⟩
  generalize (qV σC 46 Q) = Qf at hQ ⊢
  unfold w_X4_putSetting at hs
  refine wp_iload_n 1 dX4_putSetting_0 rfl ?_
  refine wp_if_lt (tgt := 20) dX4_putSetting_1 (by decide) (fun c1 => ?_) (fun c1 => ?_)
  · have hs := hs.1 c1
    exact wp_return rfl dX4_putSetting_20 (hQ _ hs)
  · have hs := hs.2 c1
    refine wp_iload_n 1 dX4_putSetting_4 rfl ?_
    refine wp_aload_n 0 dX4_putSetting_5 rfl ?_
    refine wp_get (v := .ref (r0 + 2)) dX4_putSetting_6 (σ_isS h0) (lt_isS h0) rfl in_X4_putSetting_X4 6 (by decide) fl_X4_putSetting_35 rfl rfl ?_
    refine wp_alen (v := 4) (σ_isS2 h0) (lt_isS2 h0) (by decide) (by decide) dX4_putSetting_9 ?_
    refine wp_icmp_ge (tgt := 20) dX4_putSetting_10 (by decide) (fun c2 => ?_) (fun c2 => ?_)
    · have hs := hs.1 c2
      exact wp_return rfl dX4_putSetting_20 (hQ _ hs)
    · have hs := hs.2 c2
      refine wp_aload_n 0 dX4_putSetting_13 rfl ?_
      refine wp_get (v := .ref (r0 + 2)) dX4_putSetting_14 (σ_isS h0) (lt_isS h0) rfl in_X4_putSetting_X4 6 (by decide) fl_X4_putSetting_35 rfl rfl ?_
      refine wp_iload_n 1 dX4_putSetting_17 rfl ?_
      refine wp_iload_n 2 dX4_putSetting_18 rfl ?_
      have hv := hs.1
      have hs := hs.2
      refine wp_iast (σ_isS2 h0) (lt_isS2 h0) hv dX4_putSetting_19 (fun M3 eM3 => ?_)
      have hs := hs M3 eM3
      exact wp_return rfl dX4_putSetting_20 (hQ _ hs)
abbrev iX4_wholeLength : MI := (cX4_wholeLength, 3, some .int, RX4, yX4_wholeLength, wsX4_wholeLength)
theorem hy_X4_wholeLength : yX4_wholeLength.cls = RX4 ∧ yX4_wholeLength.cls ≠ "java/lang/invoke/MethodHandle" ∧ yX4_wholeLength.cls ≠ "java/lang/invoke/VarHandle" ∧ (parseMethodDescriptor yX4_wholeLength.desc).map (fun d => d.parameters.length) = some 0 := by decide +kernel
theorem in_X4_wholeLength_X4 : ∀ w ∈ u_ws RX4 TX4 7, w ∈ wsX4_wholeLength := by decide +kernel
theorem fl_X4_wholeLength_9 : Cond.fieldLink RX4 9 (TX4 0).1 (TX4 0).2.1 (TX4 0).2.2.1 ∈ wsX4_wholeLength := by decide +kernel
def w_X4_wholeLength_4 (r0 : Nat) : Nat → Int32 → Int32 → (Nat → Nat → Int32) → (Int32 → Int32 → (Nat → Nat → Int32) → Prop) → Prop
  | 0, _, _, _, _ => False
  | n + 1, x1, x2, M, K => (((M r0 0) < x2 → K x1 x2 M) ∧ (¬ (M r0 0) < x2 → w_X4_lengthAt r0 x2 M (fun v3 M2 => ∀ y4 : Int32, y4 = (x1 + v3) → ∀ y5 : Int32, y5 = x2 + (1 : Int32) → w_X4_wholeLength_4 r0 n y4 y5 M2 K)))
set_option maxHeartbeats 4000000 in
set_option maxRecDepth 100000 in
theorem lp_X4_wholeLength_4 {E : EN} {r0 : Nat} {Qf : PST} {Q : Int32 → (Nat → Nat → Int32) → Prop} {K : Int32 → Int32 → (Nat → Nat → Int32) → Prop} (h0 : isS r0) (hK : ∀ (z1 : Int32) (z2 : Int32) (M : Nat → Nat → Int32), K z1 z2 M → WP E iX4_wholeLength 2 0 0 false 26 [(1, .int z1)] [] σC 46 M Qf) : ∀ (nn : Nat) (x1 : Int32) (x2 : Int32) (M : Nat → Nat → Int32), w_X4_wholeLength_4 r0 nn x1 x2 M K → WP E iX4_wholeLength 2 0 0 false 4 [(0, .ref r0), (1, .int x1), (2, .int x2)] [] σC 46 M Qf := by
  intro nn
  induction nn with
  | zero => intro x1 x2 M hs; exact hs.elim
  | succ n ih =>
    intro x1 x2 M hs
    unfold w_X4_wholeLength_4 at hs
    refine wp_iload_n 2 dX4_wholeLength_4 rfl ?_
    refine wp_aload_n 0 dX4_wholeLength_5 rfl ?_
    refine wp_get (v := .int (M r0 0)) dX4_wholeLength_6 (σ_isS h0) (lt_isS h0) rfl in_X4_wholeLength_X4 0 (by decide) fl_X4_wholeLength_9 rfl rfl ?_
    refine wp_icmp_gt (tgt := 26) dX4_wholeLength_9 (by decide) (fun c1 => ?_) (fun c1 => ?_)
    · have hs := hs.1 c1
      refine wp_sub (ls' := [(1, .int x1)]) [1] rfl ?_
      exact hK _ _ _ hs
    · have hs := hs.2 c1
      refine wp_iload_n 1 dX4_wholeLength_12 rfl ?_
      refine wp_aload_n 0 dX4_wholeLength_13 rfl ?_
      refine wp_iload_n 2 dX4_wholeLength_14 rfl ?_
      refine wp_cVi (As := [.int x2]) (st := [.int x1]) (mw_X4_lengthAt h0 hs) gX4_wholeLength_X4_lengthAt rfl hy_X4_lengthAt rfl (σ_isS h0) (lt_isS h0) rfl (by decide) (by decide) (Nat.le_of_ble_eq_true rfl) rfl dX4_wholeLength_15 (fun v3 M2 hs => ?_)
      refine wp_iadd dX4_wholeLength_18 ?_
      refine wp_topi (fun y4 ey4 => ?_)
      have hs := hs y4 ey4
      refine wp_istore_n (ls' := [(0, .ref r0), (1, .int y4), (2, .int x2)]) [1, 0, 2] dX4_wholeLength_19 rfl (by decide) ?_
      obtain ⟨y5, ey5⟩ : ∃ y : Int32, y = x2 + (1 : Int32) := ⟨_, rfl⟩
      have hs := hs y5 ey5
      refine wp_iinc (v := y5) (ls' := [(0, .ref r0), (1, .int y4), (2, .int y5)]) 2 [1, 2, 0] dX4_wholeLength_20 rfl (by rw [ey5]; rfl) rfl (by decide) ?_
      refine wp_goto (tgt := 4) dX4_wholeLength_23 (by decide) ?_
      refine wp_sub (ls' := [(0, .ref r0), (1, .int y4), (2, .int y5)]) [0, 1, 2] rfl ?_
      exact ih _ _ _ hs
def w_X4_wholeLength (r0 : Nat) (M : Nat → Nat → Int32) (Q : Int32 → (Nat → Nat → Int32) → Prop) : Prop := w_X4_wholeLength_4 r0 FU (0 : Int32) (0 : Int32) M (fun y6 y7 M8 => Q y6 M8)
set_option maxHeartbeats 4000000 in
set_option maxRecDepth 100000 in
theorem mw_X4_wholeLength {E : EN} {r0 : Nat} {M : Nat → Nat → Int32} {Q : Int32 → (Nat → Nat → Int32) → Prop} (h0 : isS r0) (hs : w_X4_wholeLength r0 M Q) : MW E iX4_wholeLength 2 0 0 false [.ref r0] σC 46 M (qI σC 46 Q) := by
  refine mw_intro (ls := [(0, .ref r0)]) rfl (by decide +kernel) rfl rfl (Nat.le_of_ble_eq_true rfl) ?_
  have hQ : ∀ x M, Q x M → (qI σC 46 Q) (some (.int x)) σC 46 M := fun _ _ h => ⟨_, rfl, rfl, rfl, h⟩
  generalize (qI σC 46 Q) = Qf at hQ ⊢
  unfold w_X4_wholeLength at hs
  refine wp_iconst (v := 0) dX4_wholeLength_0 (by decide) ?_
  refine wp_istore_n (ls' := [(0, .ref r0), (1, .int (0 : Int32))]) [1, 0] dX4_wholeLength_1 rfl (by decide) ?_
  refine wp_iconst (v := 0) dX4_wholeLength_2 (by decide) ?_
  refine wp_istore_n (ls' := [(0, .ref r0), (1, .int (0 : Int32)), (2, .int (0 : Int32))]) [1, 2, 0] dX4_wholeLength_3 rfl (by decide) ?_
  refine wp_sub (ls' := [(0, .ref r0), (1, .int (0 : Int32)), (2, .int (0 : Int32))]) [0, 1, 2] rfl ?_
  refine lp_X4_wholeLength_4 h0 (K := fun y6 y7 M8 => Q y6 M8) (fun y6 y7 M8 hs => ?_) FU _ _ _ hs
  refine wp_iload_n 0 dX4_wholeLength_26 rfl ?_
  exact wp_ireturn rfl rfl dX4_wholeLength_27 (hQ _ _ hs)
abbrev iX4_degrees : MI := (cX4_degrees, 3, some .int, RX4, yX4_degrees, wsX4_degrees)
theorem hy_X4_degrees : yX4_degrees.cls = RX4 ∧ yX4_degrees.cls ≠ "java/lang/invoke/MethodHandle" ∧ yX4_degrees.cls ≠ "java/lang/invoke/VarHandle" ∧ (parseMethodDescriptor yX4_degrees.desc).map (fun d => d.parameters.length) = some 1 := by decide +kernel
def w_X4_degrees (r0 : Nat) (a : Int32) (M : Nat → Nat → Int32) (Q : Int32 → (Nat → Nat → Int32) → Prop) : Prop := w_X4_settingAt r0 (3 : Int32) M (fun v2 M1 => w_X4_lengthAt r0 (a + (1 : Int32)) M1 (fun v4 M3 => ∀ y5 : Int32, y5 = (v2 - (v4 - (1 : Int32))) → ∀ y6 : Int32, y6 = (if (0 : Int32) < y5 then y5 else (0 : Int32)) → Q ((90 : Int32) + y6) M3))
set_option maxHeartbeats 4000000 in
set_option maxRecDepth 100000 in
theorem mw_X4_degrees {E : EN} {r0 : Nat} {a : Int32} {M : Nat → Nat → Int32} {Q : Int32 → (Nat → Nat → Int32) → Prop} (h0 : isS r0) (hs : w_X4_degrees r0 a M Q) : MW E iX4_degrees 2 0 0 false [.ref r0, .int a] σC 46 M (qI σC 46 Q) := by
  refine mw_intro (ls := [(0, .ref r0), (1, .int a)]) rfl (by decide +kernel) rfl rfl (Nat.le_of_ble_eq_true rfl) ?_
  have hQ : ∀ x M, Q x M → (qI σC 46 Q) (some (.int x)) σC 46 M := fun _ _ h => ⟨_, rfl, rfl, rfl, h⟩
  generalize (qI σC 46 Q) = Qf at hQ ⊢
  unfold w_X4_degrees at hs
  refine wp_aload_n 0 dX4_degrees_0 rfl ?_
  refine wp_iconst (v := 3) dX4_degrees_1 (by decide) ?_
  refine wp_cVi (As := [.int (3 : Int32)]) (st := []) (mw_X4_settingAt h0 hs) gX4_degrees_X4_settingAt rfl hy_X4_settingAt rfl (σ_isS h0) (lt_isS h0) rfl (by decide) (by decide) (Nat.le_of_ble_eq_true rfl) rfl dX4_degrees_2 (fun v2 M1 hs => ?_)
  refine wp_aload_n 0 dX4_degrees_5 rfl ?_
  refine wp_iload_n 1 dX4_degrees_6 rfl ?_
  refine wp_iconst (v := 1) dX4_degrees_7 (by decide) ?_
  refine wp_iadd dX4_degrees_8 ?_
  refine wp_cVi (As := [.int (a + (1 : Int32))]) (st := [.int v2]) (mw_X4_lengthAt h0 hs) gX4_degrees_X4_lengthAt rfl hy_X4_lengthAt rfl (σ_isS h0) (lt_isS h0) rfl (by decide) (by decide) (Nat.le_of_ble_eq_true rfl) rfl dX4_degrees_9 (fun v4 M3 hs => ?_)
  refine wp_iconst (v := 1) dX4_degrees_12 (by decide) ?_
  refine wp_isub dX4_degrees_13 ?_
  refine wp_isub dX4_degrees_14 ?_
  refine wp_topi (fun y5 ey5 => ?_)
  have hs := hs y5 ey5
  refine wp_istore_n (ls' := [(0, .ref r0), (1, .int a), (2, .int y5)]) [1, 2, 0] dX4_degrees_15 rfl (by decide) ?_
  refine wp_bipush (v := 90) dX4_degrees_16 (by decide) ?_
  refine wp_iconst (v := 0) dX4_degrees_18 (by decide) ?_
  refine wp_iload_n 2 dX4_degrees_19 rfl ?_
  refine wp_mmax (by decide +kernel) (by decide +kernel) (by decide +kernel) (by decide +kernel) (by decide) (Nat.le_of_ble_eq_true rfl) dX4_degrees_20 ?_
  refine wp_topi (fun y6 ey6 => ?_)
  have hs := hs y6 ey6
  refine wp_iadd dX4_degrees_23 ?_
  exact wp_ireturn rfl rfl dX4_degrees_24 (hQ _ _ hs)
end
